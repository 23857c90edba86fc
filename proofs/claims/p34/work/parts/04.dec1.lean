theorem dX0_init_0 : decode cX0_init 0 = .ok (.aload_n 0, 1) := by decide +kernel
theorem dX0_init_1 : decode cX0_init 1 = .ok (.invokespecial 3, 3) := by decide +kernel
theorem dX0_init_4 : decode cX0_init 4 = .ok (.aload_n 0, 1) := by decide +kernel
theorem dX0_init_5 : decode cX0_init 5 = .ok (.sipush 1728, 3) := by decide +kernel
theorem dX0_init_8 : decode cX0_init 8 = .ok (.newarray .int, 2) := by decide +kernel
theorem dX0_init_10 : decode cX0_init 10 = .ok (.putfield 9, 3) := by decide +kernel
theorem dX0_init_13 : decode cX0_init 13 = .ok (.aload_n 0, 1) := by decide +kernel
theorem dX0_init_14 : decode cX0_init 14 = .ok (.sipush 1728, 3) := by decide +kernel
theorem dX0_init_17 : decode cX0_init 17 = .ok (.newarray .int, 2) := by decide +kernel
theorem dX0_init_19 : decode cX0_init 19 = .ok (.putfield 15, 3) := by decide +kernel
theorem dX0_init_22 : decode cX0_init 22 = .ok (.aload_n 0, 1) := by decide +kernel
theorem dX0_init_23 : decode cX0_init 23 = .ok (.bipush 6, 2) := by decide +kernel
theorem dX0_init_25 : decode cX0_init 25 = .ok (.bipush 6, 2) := by decide +kernel
theorem dX0_init_27 : decode cX0_init 27 = .ok (.iconst 0, 1) := by decide +kernel
theorem dX0_init_28 : decode cX0_init 28 = .ok (.invokevirtual 18, 3) := by decide +kernel
theorem dX0_init_31 : decode cX0_init 31 = .ok (.return_, 1) := by decide +kernel
theorem dX0_layOut_0 : decode cX0_layOut 0 = .ok (.aload_n 0, 1) := by decide +kernel
theorem dX0_layOut_1 : decode cX0_layOut 1 = .ok (.iconst 1, 1) := by decide +kernel
theorem dX0_layOut_2 : decode cX0_layOut 2 = .ok (.iload_n 2, 1) := by decide +kernel
theorem dX0_layOut_3 : decode cX0_layOut 3 = .ok (.ifCond .le 7, 3) := by decide +kernel
theorem dX0_layOut_6 : decode cX0_layOut 6 = .ok (.iconst 1, 1) := by decide +kernel
theorem dX0_layOut_7 : decode cX0_layOut 7 = .ok (.goto 4, 3) := by decide +kernel
theorem dX0_layOut_10 : decode cX0_layOut 10 = .ok (.iconst 0, 1) := by decide +kernel
theorem dX0_layOut_11 : decode cX0_layOut 11 = .ok (.iadd, 1) := by decide +kernel
theorem dX0_layOut_12 : decode cX0_layOut 12 = .ok (.iload_n 3, 1) := by decide +kernel
theorem dX0_layOut_13 : decode cX0_layOut 13 = .ok (.ifCond .le 7, 3) := by decide +kernel
theorem dX0_layOut_16 : decode cX0_layOut 16 = .ok (.iconst 1, 1) := by decide +kernel
theorem dX0_layOut_17 : decode cX0_layOut 17 = .ok (.goto 4, 3) := by decide +kernel
theorem dX0_layOut_20 : decode cX0_layOut 20 = .ok (.iconst 0, 1) := by decide +kernel
theorem dX0_layOut_21 : decode cX0_layOut 21 = .ok (.iadd, 1) := by decide +kernel
theorem dX0_layOut_22 : decode cX0_layOut 22 = .ok (.putfield 22, 3) := by decide +kernel
theorem dX0_layOut_25 : decode cX0_layOut 25 = .ok (.aload_n 0, 1) := by decide +kernel
theorem dX0_layOut_26 : decode cX0_layOut 26 = .ok (.iconst 0, 1) := by decide +kernel
theorem dX0_layOut_27 : decode cX0_layOut 27 = .ok (.putfield 26, 3) := by decide +kernel
theorem dX0_layOut_30 : decode cX0_layOut 30 = .ok (.iconst 1, 1) := by decide +kernel
theorem dX0_layOut_31 : decode cX0_layOut 31 = .ok (.istore 4, 2) := by decide +kernel
theorem dX0_layOut_33 : decode cX0_layOut 33 = .ok (.iload 4, 2) := by decide +kernel
theorem dX0_layOut_35 : decode cX0_layOut 35 = .ok (.iload_n 1, 1) := by decide +kernel
theorem dX0_layOut_36 : decode cX0_layOut 36 = .ok (.if_icmp .gt 57, 3) := by decide +kernel
theorem dX0_layOut_39 : decode cX0_layOut 39 = .ok (.iconst 1, 1) := by decide +kernel
theorem dX0_layOut_40 : decode cX0_layOut 40 = .ok (.iload_n 2, 1) := by decide +kernel
theorem dX0_layOut_41 : decode cX0_layOut 41 = .ok (.invokestatic 29, 3) := by decide +kernel
theorem dX0_layOut_44 : decode cX0_layOut 44 = .ok (.istore 5, 2) := by decide +kernel
theorem dX0_layOut_46 : decode cX0_layOut 46 = .ok (.iload 5, 2) := by decide +kernel
theorem dX0_layOut_48 : decode cX0_layOut 48 = .ok (.iload_n 2, 1) := by decide +kernel
theorem dX0_layOut_49 : decode cX0_layOut 49 = .ok (.if_icmp .gt 38, 3) := by decide +kernel
theorem dX0_layOut_52 : decode cX0_layOut 52 = .ok (.iconst 1, 1) := by decide +kernel
theorem dX0_layOut_53 : decode cX0_layOut 53 = .ok (.iload_n 3, 1) := by decide +kernel
theorem dX0_layOut_54 : decode cX0_layOut 54 = .ok (.invokestatic 29, 3) := by decide +kernel
theorem dX0_layOut_57 : decode cX0_layOut 57 = .ok (.istore 6, 2) := by decide +kernel
theorem dX0_layOut_59 : decode cX0_layOut 59 = .ok (.iload 6, 2) := by decide +kernel
theorem dX0_layOut_61 : decode cX0_layOut 61 = .ok (.iload_n 3, 1) := by decide +kernel
theorem dX0_layOut_62 : decode cX0_layOut 62 = .ok (.if_icmp .gt 19, 3) := by decide +kernel
theorem dX0_layOut_65 : decode cX0_layOut 65 = .ok (.aload_n 0, 1) := by decide +kernel
theorem dX0_layOut_66 : decode cX0_layOut 66 = .ok (.iload 4, 2) := by decide +kernel
theorem dX0_layOut_68 : decode cX0_layOut 68 = .ok (.iload 5, 2) := by decide +kernel
theorem dX0_layOut_70 : decode cX0_layOut 70 = .ok (.iload 6, 2) := by decide +kernel
theorem dX0_layOut_72 : decode cX0_layOut 72 = .ok (.invokevirtual 35, 3) := by decide +kernel
theorem dX0_layOut_75 : decode cX0_layOut 75 = .ok (.iinc 6 1, 3) := by decide +kernel
theorem dX0_layOut_78 : decode cX0_layOut 78 = .ok (.goto (-19), 3) := by decide +kernel
theorem dX0_layOut_81 : decode cX0_layOut 81 = .ok (.iinc 5 1, 3) := by decide +kernel
theorem dX0_layOut_84 : decode cX0_layOut 84 = .ok (.goto (-38), 3) := by decide +kernel
theorem dX0_layOut_87 : decode cX0_layOut 87 = .ok (.iinc 4 1, 3) := by decide +kernel
theorem dX0_layOut_90 : decode cX0_layOut 90 = .ok (.goto (-57), 3) := by decide +kernel
theorem dX0_layOut_93 : decode cX0_layOut 93 = .ok (.return_, 1) := by decide +kernel
theorem dX0_addOutcome_0 : decode cX0_addOutcome 0 = .ok (.aload_n 0, 1) := by decide +kernel
theorem dX0_addOutcome_1 : decode cX0_addOutcome 1 = .ok (.getfield 26, 3) := by decide +kernel
theorem dX0_addOutcome_4 : decode cX0_addOutcome 4 = .ok (.sipush 1728, 3) := by decide +kernel
theorem dX0_addOutcome_7 : decode cX0_addOutcome 7 = .ok (.if_icmp .ge 50, 3) := by decide +kernel
theorem dX0_addOutcome_10 : decode cX0_addOutcome 10 = .ok (.aload_n 0, 1) := by decide +kernel
theorem dX0_addOutcome_11 : decode cX0_addOutcome 11 = .ok (.getfield 9, 3) := by decide +kernel
theorem dX0_addOutcome_14 : decode cX0_addOutcome 14 = .ok (.aload_n 0, 1) := by decide +kernel
theorem dX0_addOutcome_15 : decode cX0_addOutcome 15 = .ok (.getfield 26, 3) := by decide +kernel
theorem dX0_addOutcome_18 : decode cX0_addOutcome 18 = .ok (.iload_n 1, 1) := by decide +kernel
theorem dX0_addOutcome_19 : decode cX0_addOutcome 19 = .ok (.iload_n 2, 1) := by decide +kernel
theorem dX0_addOutcome_20 : decode cX0_addOutcome 20 = .ok (.iadd, 1) := by decide +kernel
theorem dX0_addOutcome_21 : decode cX0_addOutcome 21 = .ok (.iload_n 3, 1) := by decide +kernel
theorem dX0_addOutcome_22 : decode cX0_addOutcome 22 = .ok (.iadd, 1) := by decide +kernel
theorem dX0_addOutcome_23 : decode cX0_addOutcome 23 = .ok (.iastore, 1) := by decide +kernel
theorem dX0_addOutcome_24 : decode cX0_addOutcome 24 = .ok (.aload_n 0, 1) := by decide +kernel
theorem dX0_addOutcome_25 : decode cX0_addOutcome 25 = .ok (.getfield 15, 3) := by decide +kernel
theorem dX0_addOutcome_28 : decode cX0_addOutcome 28 = .ok (.aload_n 0, 1) := by decide +kernel
theorem dX0_addOutcome_29 : decode cX0_addOutcome 29 = .ok (.getfield 26, 3) := by decide +kernel
theorem dX0_addOutcome_32 : decode cX0_addOutcome 32 = .ok (.iload_n 1, 1) := by decide +kernel
theorem dX0_addOutcome_33 : decode cX0_addOutcome 33 = .ok (.invokestatic 38, 3) := by decide +kernel
theorem dX0_addOutcome_36 : decode cX0_addOutcome 36 = .ok (.iload_n 2, 1) := by decide +kernel
theorem dX0_addOutcome_37 : decode cX0_addOutcome 37 = .ok (.invokestatic 38, 3) := by decide +kernel
theorem dX0_addOutcome_40 : decode cX0_addOutcome 40 = .ok (.ior, 1) := by decide +kernel
theorem dX0_addOutcome_41 : decode cX0_addOutcome 41 = .ok (.iload_n 3, 1) := by decide +kernel
theorem dX0_addOutcome_42 : decode cX0_addOutcome 42 = .ok (.invokestatic 38, 3) := by decide +kernel
theorem dX0_addOutcome_45 : decode cX0_addOutcome 45 = .ok (.ior, 1) := by decide +kernel
theorem dX0_addOutcome_46 : decode cX0_addOutcome 46 = .ok (.iastore, 1) := by decide +kernel
theorem dX0_addOutcome_47 : decode cX0_addOutcome 47 = .ok (.aload_n 0, 1) := by decide +kernel
theorem dX0_addOutcome_48 : decode cX0_addOutcome 48 = .ok (.dup, 1) := by decide +kernel
theorem dX0_addOutcome_49 : decode cX0_addOutcome 49 = .ok (.getfield 26, 3) := by decide +kernel
theorem dX0_addOutcome_52 : decode cX0_addOutcome 52 = .ok (.iconst 1, 1) := by decide +kernel
theorem dX0_addOutcome_53 : decode cX0_addOutcome 53 = .ok (.iadd, 1) := by decide +kernel
theorem dX0_addOutcome_54 : decode cX0_addOutcome 54 = .ok (.putfield 26, 3) := by decide +kernel
theorem dX0_addOutcome_57 : decode cX0_addOutcome 57 = .ok (.return_, 1) := by decide +kernel
theorem dX0_bitOf_0 : decode cX0_bitOf 0 = .ok (.iload_n 0, 1) := by decide +kernel
theorem dX0_bitOf_1 : decode cX0_bitOf 1 = .ok (.iconst 1, 1) := by decide +kernel
theorem dX0_bitOf_2 : decode cX0_bitOf 2 = .ok (.if_icmp .lt 9, 3) := by decide +kernel
theorem dX0_bitOf_5 : decode cX0_bitOf 5 = .ok (.iload_n 0, 1) := by decide +kernel
theorem dX0_bitOf_6 : decode cX0_bitOf 6 = .ok (.bipush 12, 2) := by decide +kernel
theorem dX0_bitOf_8 : decode cX0_bitOf 8 = .ok (.if_icmp .le 7, 3) := by decide +kernel
theorem dX0_bitOf_11 : decode cX0_bitOf 11 = .ok (.iconst 0, 1) := by decide +kernel
theorem dX0_bitOf_12 : decode cX0_bitOf 12 = .ok (.goto 6, 3) := by decide +kernel
theorem dX0_bitOf_15 : decode cX0_bitOf 15 = .ok (.iconst 1, 1) := by decide +kernel
theorem dX0_bitOf_16 : decode cX0_bitOf 16 = .ok (.iload_n 0, 1) := by decide +kernel
theorem dX0_bitOf_17 : decode cX0_bitOf 17 = .ok (.ishl, 1) := by decide +kernel
theorem dX0_bitOf_18 : decode cX0_bitOf 18 = .ok (.ireturn, 1) := by decide +kernel
theorem dX0_comes_0 : decode cX0_comes 0 = .ok (.iload_n 1, 1) := by decide +kernel
theorem dX0_comes_1 : decode cX0_comes 1 = .ok (.iconst 5, 1) := by decide +kernel
theorem dX0_comes_2 : decode cX0_comes 2 = .ok (.if_icmp .lt 21, 3) := by decide +kernel
theorem dX0_comes_5 : decode cX0_comes 5 = .ok (.aload_n 0, 1) := by decide +kernel
theorem dX0_comes_6 : decode cX0_comes 6 = .ok (.iload_n 1, 1) := by decide +kernel
theorem dX0_comes_7 : decode cX0_comes 7 = .ok (.iconst 5, 1) := by decide +kernel
theorem dX0_comes_8 : decode cX0_comes 8 = .ok (.isub, 1) := by decide +kernel
theorem dX0_comes_9 : decode cX0_comes 9 = .ok (.iload_n 2, 1) := by decide +kernel
theorem dX0_comes_10 : decode cX0_comes 10 = .ok (.iload_n 3, 1) := by decide +kernel
theorem dX0_comes_11 : decode cX0_comes 11 = .ok (.invokevirtual 42, 3) := by decide +kernel
theorem dX0_comes_14 : decode cX0_comes 14 = .ok (.ifCond .ne 7, 3) := by decide +kernel
theorem dX0_comes_17 : decode cX0_comes 17 = .ok (.iconst 1, 1) := by decide +kernel
theorem dX0_comes_18 : decode cX0_comes 18 = .ok (.goto 4, 3) := by decide +kernel
theorem dX0_comes_21 : decode cX0_comes 21 = .ok (.iconst 0, 1) := by decide +kernel
theorem dX0_comes_22 : decode cX0_comes 22 = .ok (.ireturn, 1) := by decide +kernel
theorem dX0_comes_23 : decode cX0_comes 23 = .ok (.aload_n 0, 1) := by decide +kernel
theorem dX0_comes_24 : decode cX0_comes 24 = .ok (.iload_n 1, 1) := by decide +kernel
theorem dX0_comes_25 : decode cX0_comes 25 = .ok (.iload_n 2, 1) := by decide +kernel
theorem dX0_comes_26 : decode cX0_comes 26 = .ok (.iload_n 3, 1) := by decide +kernel
theorem dX0_comes_27 : decode cX0_comes 27 = .ok (.invokevirtual 42, 3) := by decide +kernel
theorem dX0_comes_30 : decode cX0_comes 30 = .ok (.ireturn, 1) := by decide +kernel
theorem dX0_holds_0 : decode cX0_holds 0 = .ok (.iload_n 1, 1) := by decide +kernel
theorem dX0_holds_1 : decode cX0_holds 1 = .ok (.tableswitch 124 0 4 #[35, 51, 67, 85, 104], 35) := by decide +kernel
theorem dX0_holds_36 : decode cX0_holds 36 = .ok (.aload_n 0, 1) := by decide +kernel
theorem dX0_holds_37 : decode cX0_holds 37 = .ok (.getfield 9, 3) := by decide +kernel
theorem dX0_holds_40 : decode cX0_holds 40 = .ok (.iload_n 3, 1) := by decide +kernel
theorem dX0_holds_41 : decode cX0_holds 41 = .ok (.iaload, 1) := by decide +kernel
theorem dX0_holds_42 : decode cX0_holds 42 = .ok (.iload_n 2, 1) := by decide +kernel
theorem dX0_holds_43 : decode cX0_holds 43 = .ok (.if_icmp .ne 7, 3) := by decide +kernel
theorem dX0_holds_46 : decode cX0_holds 46 = .ok (.iconst 1, 1) := by decide +kernel
theorem dX0_holds_47 : decode cX0_holds 47 = .ok (.goto 4, 3) := by decide +kernel
theorem dX0_holds_50 : decode cX0_holds 50 = .ok (.iconst 0, 1) := by decide +kernel
theorem dX0_holds_51 : decode cX0_holds 51 = .ok (.ireturn, 1) := by decide +kernel
theorem dX0_holds_52 : decode cX0_holds 52 = .ok (.aload_n 0, 1) := by decide +kernel
theorem dX0_holds_53 : decode cX0_holds 53 = .ok (.getfield 9, 3) := by decide +kernel
theorem dX0_holds_56 : decode cX0_holds 56 = .ok (.iload_n 3, 1) := by decide +kernel
theorem dX0_holds_57 : decode cX0_holds 57 = .ok (.iaload, 1) := by decide +kernel
theorem dX0_holds_58 : decode cX0_holds 58 = .ok (.iload_n 2, 1) := by decide +kernel
theorem dX0_holds_59 : decode cX0_holds 59 = .ok (.if_icmp .lt 7, 3) := by decide +kernel
theorem dX0_holds_62 : decode cX0_holds 62 = .ok (.iconst 1, 1) := by decide +kernel
theorem dX0_holds_63 : decode cX0_holds 63 = .ok (.goto 4, 3) := by decide +kernel
theorem dX0_holds_66 : decode cX0_holds 66 = .ok (.iconst 0, 1) := by decide +kernel
theorem dX0_holds_67 : decode cX0_holds 67 = .ok (.ireturn, 1) := by decide +kernel
theorem dX0_holds_68 : decode cX0_holds 68 = .ok (.aload_n 0, 1) := by decide +kernel
theorem dX0_holds_69 : decode cX0_holds 69 = .ok (.getfield 9, 3) := by decide +kernel
theorem dX0_holds_72 : decode cX0_holds 72 = .ok (.iload_n 3, 1) := by decide +kernel
theorem dX0_holds_73 : decode cX0_holds 73 = .ok (.iaload, 1) := by decide +kernel
theorem dX0_holds_74 : decode cX0_holds 74 = .ok (.iconst 2, 1) := by decide +kernel
theorem dX0_holds_75 : decode cX0_holds 75 = .ok (.irem, 1) := by decide +kernel
theorem dX0_holds_76 : decode cX0_holds 76 = .ok (.iconst 1, 1) := by decide +kernel
theorem dX0_holds_77 : decode cX0_holds 77 = .ok (.if_icmp .ne 7, 3) := by decide +kernel
theorem dX0_holds_80 : decode cX0_holds 80 = .ok (.iconst 1, 1) := by decide +kernel
theorem dX0_holds_81 : decode cX0_holds 81 = .ok (.goto 4, 3) := by decide +kernel
theorem dX0_holds_84 : decode cX0_holds 84 = .ok (.iconst 0, 1) := by decide +kernel
theorem dX0_holds_85 : decode cX0_holds 85 = .ok (.ireturn, 1) := by decide +kernel
theorem dX0_holds_86 : decode cX0_holds 86 = .ok (.aload_n 0, 1) := by decide +kernel
theorem dX0_holds_87 : decode cX0_holds 87 = .ok (.getfield 15, 3) := by decide +kernel
theorem dX0_holds_90 : decode cX0_holds 90 = .ok (.iload_n 3, 1) := by decide +kernel
theorem dX0_holds_91 : decode cX0_holds 91 = .ok (.iaload, 1) := by decide +kernel
theorem dX0_holds_92 : decode cX0_holds 92 = .ok (.invokestatic 46, 3) := by decide +kernel
theorem dX0_holds_95 : decode cX0_holds 95 = .ok (.iconst 1, 1) := by decide +kernel
theorem dX0_holds_96 : decode cX0_holds 96 = .ok (.if_icmp .ne 7, 3) := by decide +kernel
theorem dX0_holds_99 : decode cX0_holds 99 = .ok (.iconst 1, 1) := by decide +kernel
theorem dX0_holds_100 : decode cX0_holds 100 = .ok (.goto 4, 3) := by decide +kernel
theorem dX0_holds_103 : decode cX0_holds 103 = .ok (.iconst 0, 1) := by decide +kernel
theorem dX0_holds_104 : decode cX0_holds 104 = .ok (.ireturn, 1) := by decide +kernel
theorem dX0_holds_105 : decode cX0_holds 105 = .ok (.aload_n 0, 1) := by decide +kernel
theorem dX0_holds_106 : decode cX0_holds 106 = .ok (.getfield 15, 3) := by decide +kernel
theorem dX0_holds_109 : decode cX0_holds 109 = .ok (.iload_n 3, 1) := by decide +kernel
theorem dX0_holds_110 : decode cX0_holds 110 = .ok (.iaload, 1) := by decide +kernel
theorem dX0_holds_111 : decode cX0_holds 111 = .ok (.iload_n 2, 1) := by decide +kernel
theorem dX0_holds_112 : decode cX0_holds 112 = .ok (.invokestatic 38, 3) := by decide +kernel
theorem dX0_holds_115 : decode cX0_holds 115 = .ok (.iand, 1) := by decide +kernel
theorem dX0_holds_116 : decode cX0_holds 116 = .ok (.ifCond .eq 7, 3) := by decide +kernel
theorem dX0_holds_119 : decode cX0_holds 119 = .ok (.iconst 1, 1) := by decide +kernel
theorem dX0_holds_120 : decode cX0_holds 120 = .ok (.goto 4, 3) := by decide +kernel
theorem dX0_holds_123 : decode cX0_holds 123 = .ok (.iconst 0, 1) := by decide +kernel
theorem dX0_holds_124 : decode cX0_holds 124 = .ok (.ireturn, 1) := by decide +kernel
theorem dX0_holds_125 : decode cX0_holds 125 = .ok (.iconst 0, 1) := by decide +kernel
theorem dX0_holds_126 : decode cX0_holds 126 = .ok (.ireturn, 1) := by decide +kernel
theorem dX0_countWays_0 : decode cX0_countWays 0 = .ok (.iconst 0, 1) := by decide +kernel
theorem dX0_countWays_1 : decode cX0_countWays 1 = .ok (.istore_n 3, 1) := by decide +kernel
theorem dX0_countWays_2 : decode cX0_countWays 2 = .ok (.iconst 0, 1) := by decide +kernel
theorem dX0_countWays_3 : decode cX0_countWays 3 = .ok (.istore 4, 2) := by decide +kernel
theorem dX0_countWays_5 : decode cX0_countWays 5 = .ok (.iload 4, 2) := by decide +kernel
theorem dX0_countWays_7 : decode cX0_countWays 7 = .ok (.aload_n 0, 1) := by decide +kernel
theorem dX0_countWays_8 : decode cX0_countWays 8 = .ok (.getfield 26, 3) := by decide +kernel
theorem dX0_countWays_11 : decode cX0_countWays 11 = .ok (.if_icmp .ge 23, 3) := by decide +kernel
theorem dX0_countWays_14 : decode cX0_countWays 14 = .ok (.aload_n 0, 1) := by decide +kernel
theorem dX0_countWays_15 : decode cX0_countWays 15 = .ok (.iload_n 1, 1) := by decide +kernel
theorem dX0_countWays_16 : decode cX0_countWays 16 = .ok (.iload_n 2, 1) := by decide +kernel
theorem dX0_countWays_17 : decode cX0_countWays 17 = .ok (.iload 4, 2) := by decide +kernel
theorem dX0_countWays_19 : decode cX0_countWays 19 = .ok (.invokevirtual 51, 3) := by decide +kernel
theorem dX0_countWays_22 : decode cX0_countWays 22 = .ok (.ifCond .eq 6, 3) := by decide +kernel
theorem dX0_countWays_25 : decode cX0_countWays 25 = .ok (.iinc 3 1, 3) := by decide +kernel
theorem dX0_countWays_28 : decode cX0_countWays 28 = .ok (.iinc 4 1, 3) := by decide +kernel
theorem dX0_countWays_31 : decode cX0_countWays 31 = .ok (.goto (-26), 3) := by decide +kernel
theorem dX0_countWays_34 : decode cX0_countWays 34 = .ok (.iload_n 3, 1) := by decide +kernel
theorem dX0_countWays_35 : decode cX0_countWays 35 = .ok (.ireturn, 1) := by decide +kernel
theorem dX0_gainOver_0 : decode cX0_gainOver 0 = .ok (.iload_n 1, 1) := by decide +kernel
theorem dX0_gainOver_1 : decode cX0_gainOver 1 = .ok (.aload_n 0, 1) := by decide +kernel
theorem dX0_gainOver_2 : decode cX0_gainOver 2 = .ok (.getfield 26, 3) := by decide +kernel
theorem dX0_gainOver_5 : decode cX0_gainOver 5 = .ok (.iload_n 3, 1) := by decide +kernel
theorem dX0_gainOver_6 : decode cX0_gainOver 6 = .ok (.isub, 1) := by decide +kernel
theorem dX0_gainOver_7 : decode cX0_gainOver 7 = .ok (.imul, 1) := by decide +kernel
theorem dX0_gainOver_8 : decode cX0_gainOver 8 = .ok (.iload_n 2, 1) := by decide +kernel
theorem dX0_gainOver_9 : decode cX0_gainOver 9 = .ok (.iload_n 3, 1) := by decide +kernel
theorem dX0_gainOver_10 : decode cX0_gainOver 10 = .ok (.imul, 1) := by decide +kernel
theorem dX0_gainOver_11 : decode cX0_gainOver 11 = .ok (.isub, 1) := by decide +kernel
theorem dX0_gainOver_12 : decode cX0_gainOver 12 = .ok (.ireturn, 1) := by decide +kernel
theorem dX1_init_0 : decode cX1_init 0 = .ok (.aload_n 0, 1) := by decide +kernel
theorem dX1_init_1 : decode cX1_init 1 = .ok (.invokespecial 1, 3) := by decide +kernel
theorem dX1_init_4 : decode cX1_init 4 = .ok (.aload_n 0, 1) := by decide +kernel
theorem dX1_init_5 : decode cX1_init 5 = .ok (.iload_n 1, 1) := by decide +kernel
theorem dX1_init_6 : decode cX1_init 6 = .ok (.putfield 7, 3) := by decide +kernel
theorem dX1_init_9 : decode cX1_init 9 = .ok (.aload_n 0, 1) := by decide +kernel
theorem dX1_init_10 : decode cX1_init 10 = .ok (.iload_n 2, 1) := by decide +kernel
theorem dX1_init_11 : decode cX1_init 11 = .ok (.putfield 13, 3) := by decide +kernel
theorem dX1_init_14 : decode cX1_init 14 = .ok (.aload_n 0, 1) := by decide +kernel
theorem dX1_init_15 : decode cX1_init 15 = .ok (.iload_n 3, 1) := by decide +kernel
theorem dX1_init_16 : decode cX1_init 16 = .ok (.putfield 16, 3) := by decide +kernel
theorem dX1_init_19 : decode cX1_init 19 = .ok (.aload_n 0, 1) := by decide +kernel
theorem dX1_init_20 : decode cX1_init 20 = .ok (.iload 4, 2) := by decide +kernel
theorem dX1_init_22 : decode cX1_init 22 = .ok (.putfield 19, 3) := by decide +kernel
theorem dX1_init_25 : decode cX1_init 25 = .ok (.aload_n 0, 1) := by decide +kernel
theorem dX1_init_26 : decode cX1_init 26 = .ok (.iload 5, 2) := by decide +kernel
theorem dX1_init_28 : decode cX1_init 28 = .ok (.putfield 22, 3) := by decide +kernel
theorem dX1_init_31 : decode cX1_init 31 = .ok (.aload_n 0, 1) := by decide +kernel
theorem dX1_init_32 : decode cX1_init 32 = .ok (.iload 6, 2) := by decide +kernel
theorem dX1_init_34 : decode cX1_init 34 = .ok (.putfield 25, 3) := by decide +kernel
theorem dX1_init_37 : decode cX1_init 37 = .ok (.return_, 1) := by decide +kernel
theorem dX2_init_0 : decode cX2_init 0 = .ok (.aload_n 0, 1) := by decide +kernel
theorem dX2_init_1 : decode cX2_init 1 = .ok (.invokespecial 3, 3) := by decide +kernel
theorem dX2_init_4 : decode cX2_init 4 = .ok (.aload_n 0, 1) := by decide +kernel
theorem dX2_init_5 : decode cX2_init 5 = .ok (.new 9, 3) := by decide +kernel
theorem dX2_init_8 : decode cX2_init 8 = .ok (.dup, 1) := by decide +kernel
theorem dX2_init_9 : decode cX2_init 9 = .ok (.invokespecial 11, 3) := by decide +kernel
theorem dX2_init_12 : decode cX2_init 12 = .ok (.putfield 12, 3) := by decide +kernel
theorem dX2_init_15 : decode cX2_init 15 = .ok (.aload_n 0, 1) := by decide +kernel
theorem dX2_init_16 : decode cX2_init 16 = .ok (.new 16, 3) := by decide +kernel
theorem dX2_init_19 : decode cX2_init 19 = .ok (.dup, 1) := by decide +kernel
theorem dX2_init_20 : decode cX2_init 20 = .ok (.invokespecial 18, 3) := by decide +kernel
theorem dX2_init_23 : decode cX2_init 23 = .ok (.putfield 19, 3) := by decide +kernel
theorem dX2_init_26 : decode cX2_init 26 = .ok (.aload_n 0, 1) := by decide +kernel
theorem dX2_init_27 : decode cX2_init 27 = .ok (.bipush 6, 2) := by decide +kernel
theorem dX2_init_29 : decode cX2_init 29 = .ok (.newarray .int, 2) := by decide +kernel
theorem dX2_init_31 : decode cX2_init 31 = .ok (.putfield 23, 3) := by decide +kernel
theorem dX2_init_34 : decode cX2_init 34 = .ok (.aload_n 0, 1) := by decide +kernel
theorem dX2_init_35 : decode cX2_init 35 = .ok (.sipush 500, 3) := by decide +kernel
theorem dX2_init_38 : decode cX2_init 38 = .ok (.putfield 27, 3) := by decide +kernel
theorem dX2_init_41 : decode cX2_init 41 = .ok (.iconst 0, 1) := by decide +kernel
theorem dX2_init_42 : decode cX2_init 42 = .ok (.istore_n 1, 1) := by decide +kernel
theorem dX2_init_43 : decode cX2_init 43 = .ok (.iload_n 1, 1) := by decide +kernel
theorem dX2_init_44 : decode cX2_init 44 = .ok (.bipush 6, 2) := by decide +kernel
theorem dX2_init_46 : decode cX2_init 46 = .ok (.if_icmp .ge 17, 3) := by decide +kernel
theorem dX2_init_49 : decode cX2_init 49 = .ok (.aload_n 0, 1) := by decide +kernel
theorem dX2_init_50 : decode cX2_init 50 = .ok (.getfield 23, 3) := by decide +kernel
theorem dX2_init_53 : decode cX2_init 53 = .ok (.iload_n 1, 1) := by decide +kernel
theorem dX2_init_54 : decode cX2_init 54 = .ok (.bipush 100, 2) := by decide +kernel
theorem dX2_init_56 : decode cX2_init 56 = .ok (.iastore, 1) := by decide +kernel
theorem dX2_init_57 : decode cX2_init 57 = .ok (.iinc 1 1, 3) := by decide +kernel
theorem dX2_init_60 : decode cX2_init 60 = .ok (.goto (-17), 3) := by decide +kernel
theorem dX2_init_63 : decode cX2_init 63 = .ok (.return_, 1) := by decide +kernel
theorem dX2_setDice_0 : decode cX2_setDice 0 = .ok (.iload_n 1, 1) := by decide +kernel
theorem dX2_setDice_1 : decode cX2_setDice 1 = .ok (.invokestatic 31, 3) := by decide +kernel
theorem dX2_setDice_4 : decode cX2_setDice 4 = .ok (.ifCond .eq 25, 3) := by decide +kernel
theorem dX2_setDice_7 : decode cX2_setDice 7 = .ok (.iload_n 2, 1) := by decide +kernel
theorem dX2_setDice_8 : decode cX2_setDice 8 = .ok (.invokestatic 35, 3) := by decide +kernel
theorem dX2_setDice_11 : decode cX2_setDice 11 = .ok (.ifCond .eq 18, 3) := by decide +kernel
theorem dX2_setDice_14 : decode cX2_setDice 14 = .ok (.iload_n 3, 1) := by decide +kernel
theorem dX2_setDice_15 : decode cX2_setDice 15 = .ok (.invokestatic 35, 3) := by decide +kernel
theorem dX2_setDice_18 : decode cX2_setDice 18 = .ok (.ifCond .eq 11, 3) := by decide +kernel
theorem dX2_setDice_21 : decode cX2_setDice 21 = .ok (.iload_n 2, 1) := by decide +kernel
theorem dX2_setDice_22 : decode cX2_setDice 22 = .ok (.ifCond .ne 17, 3) := by decide +kernel
theorem dX2_setDice_25 : decode cX2_setDice 25 = .ok (.iload_n 3, 1) := by decide +kernel
theorem dX2_setDice_26 : decode cX2_setDice 26 = .ok (.ifCond .eq 13, 3) := by decide +kernel
theorem dX2_setDice_29 : decode cX2_setDice 29 = .ok (.new 38, 3) := by decide +kernel
theorem dX2_setDice_32 : decode cX2_setDice 32 = .ok (.dup, 1) := by decide +kernel
theorem dX2_setDice_33 : decode cX2_setDice 33 = .ok (.ldc 40, 2) := by decide +kernel
theorem dX2_setDice_35 : decode cX2_setDice 35 = .ok (.invokespecial 42, 3) := by decide +kernel
theorem dX2_setDice_38 : decode cX2_setDice 38 = .ok (.athrow, 1) := by decide +kernel
theorem dX2_setDice_39 : decode cX2_setDice 39 = .ok (.aload_n 0, 1) := by decide +kernel
theorem dX2_setDice_40 : decode cX2_setDice 40 = .ok (.getfield 19, 3) := by decide +kernel
theorem dX2_setDice_43 : decode cX2_setDice 43 = .ok (.invokevirtual 45, 3) := by decide +kernel
theorem dX2_setDice_46 : decode cX2_setDice 46 = .ok (.ifCond .ne 13, 3) := by decide +kernel
theorem dX2_setDice_49 : decode cX2_setDice 49 = .ok (.new 49, 3) := by decide +kernel
theorem dX2_setDice_52 : decode cX2_setDice 52 = .ok (.dup, 1) := by decide +kernel
theorem dX2_setDice_53 : decode cX2_setDice 53 = .ok (.ldc 51, 2) := by decide +kernel
theorem dX2_setDice_55 : decode cX2_setDice 55 = .ok (.invokespecial 53, 3) := by decide +kernel
theorem dX2_setDice_58 : decode cX2_setDice 58 = .ok (.athrow, 1) := by decide +kernel
theorem dX2_setDice_59 : decode cX2_setDice 59 = .ok (.aload_n 0, 1) := by decide +kernel
theorem dX2_setDice_60 : decode cX2_setDice 60 = .ok (.getfield 12, 3) := by decide +kernel
theorem dX2_setDice_63 : decode cX2_setDice 63 = .ok (.iload_n 1, 1) := by decide +kernel
theorem dX2_setDice_64 : decode cX2_setDice 64 = .ok (.iload_n 2, 1) := by decide +kernel
theorem dX2_setDice_65 : decode cX2_setDice 65 = .ok (.iload_n 3, 1) := by decide +kernel
theorem dX2_setDice_66 : decode cX2_setDice 66 = .ok (.invokevirtual 54, 3) := by decide +kernel
theorem dX2_setDice_69 : decode cX2_setDice 69 = .ok (.aload_n 0, 1) := by decide +kernel
theorem dX2_setDice_70 : decode cX2_setDice 70 = .ok (.getfield 12, 3) := by decide +kernel
theorem dX2_setDice_73 : decode cX2_setDice 73 = .ok (.getfield 58, 3) := by decide +kernel
theorem dX2_setDice_76 : decode cX2_setDice 76 = .ok (.ireturn, 1) := by decide +kernel
theorem dX2_dice_0 : decode cX2_dice 0 = .ok (.aload_n 0, 1) := by decide +kernel
theorem dX2_dice_1 : decode cX2_dice 1 = .ok (.getfield 12, 3) := by decide +kernel
theorem dX2_dice_4 : decode cX2_dice 4 = .ok (.getfield 61, 3) := by decide +kernel
theorem dX2_dice_7 : decode cX2_dice 7 = .ok (.ireturn, 1) := by decide +kernel
theorem dX2_outcomes_0 : decode cX2_outcomes 0 = .ok (.aload_n 0, 1) := by decide +kernel
theorem dX2_outcomes_1 : decode cX2_outcomes 1 = .ok (.getfield 12, 3) := by decide +kernel
theorem dX2_outcomes_4 : decode cX2_outcomes 4 = .ok (.getfield 58, 3) := by decide +kernel
theorem dX2_outcomes_7 : decode cX2_outcomes 7 = .ok (.ireturn, 1) := by decide +kernel
theorem dX2_ways_0 : decode cX2_ways 0 = .ok (.iload_n 1, 1) := by decide +kernel
theorem dX2_ways_1 : decode cX2_ways 1 = .ok (.iload_n 2, 1) := by decide +kernel
theorem dX2_ways_2 : decode cX2_ways 2 = .ok (.invokestatic 71, 3) := by decide +kernel
theorem dX2_ways_5 : decode cX2_ways 5 = .ok (.aload_n 0, 1) := by decide +kernel
theorem dX2_ways_6 : decode cX2_ways 6 = .ok (.getfield 12, 3) := by decide +kernel
theorem dX2_ways_9 : decode cX2_ways 9 = .ok (.iload_n 1, 1) := by decide +kernel
theorem dX2_ways_10 : decode cX2_ways 10 = .ok (.iload_n 2, 1) := by decide +kernel
theorem dX2_ways_11 : decode cX2_ways 11 = .ok (.invokevirtual 75, 3) := by decide +kernel
theorem dX2_ways_14 : decode cX2_ways 14 = .ok (.ireturn, 1) := by decide +kernel
theorem dX2_lay_0 : decode cX2_lay 0 = .ok (.iload_n 1, 1) := by decide +kernel
theorem dX2_lay_1 : decode cX2_lay 1 = .ok (.invokestatic 79, 3) := by decide +kernel
theorem dX2_lay_4 : decode cX2_lay 4 = .ok (.iload_n 2, 1) := by decide +kernel
theorem dX2_lay_5 : decode cX2_lay 5 = .ok (.iload_n 3, 1) := by decide +kernel
theorem dX2_lay_6 : decode cX2_lay 6 = .ok (.invokestatic 71, 3) := by decide +kernel
theorem dX2_lay_9 : decode cX2_lay 9 = .ok (.iload 4, 2) := by decide +kernel
theorem dX2_lay_11 : decode cX2_lay 11 = .ok (.iconst 1, 1) := by decide +kernel
theorem dX2_lay_12 : decode cX2_lay 12 = .ok (.if_icmp .lt 10, 3) := by decide +kernel
theorem dX2_lay_15 : decode cX2_lay 15 = .ok (.iload 4, 2) := by decide +kernel
theorem dX2_lay_17 : decode cX2_lay 17 = .ok (.bipush 100, 2) := by decide +kernel
theorem dX2_lay_19 : decode cX2_lay 19 = .ok (.if_icmp .le 13, 3) := by decide +kernel
theorem dX2_lay_22 : decode cX2_lay 22 = .ok (.new 38, 3) := by decide +kernel
theorem dX2_lay_25 : decode cX2_lay 25 = .ok (.dup, 1) := by decide +kernel
theorem dX2_lay_26 : decode cX2_lay 26 = .ok (.ldc 82, 2) := by decide +kernel
theorem dX2_lay_28 : decode cX2_lay 28 = .ok (.invokespecial 42, 3) := by decide +kernel
theorem dX2_lay_31 : decode cX2_lay 31 = .ok (.athrow, 1) := by decide +kernel
theorem dX2_lay_32 : decode cX2_lay 32 = .ok (.iload 5, 2) := by decide +kernel
theorem dX2_lay_34 : decode cX2_lay 34 = .ok (.invokestatic 84, 3) := by decide +kernel
theorem dX2_lay_37 : decode cX2_lay 37 = .ok (.iload 6, 2) := by decide +kernel
theorem dX2_lay_39 : decode cX2_lay 39 = .ok (.invokestatic 87, 3) := by decide +kernel
theorem dX2_lay_42 : decode cX2_lay 42 = .ok (.aload_n 0, 1) := by decide +kernel
theorem dX2_lay_43 : decode cX2_lay 43 = .ok (.getfield 19, 3) := by decide +kernel
theorem dX2_lay_46 : decode cX2_lay 46 = .ok (.invokevirtual 90, 3) := by decide +kernel
theorem dX2_lay_49 : decode cX2_lay 49 = .ok (.bipush 12, 2) := by decide +kernel
theorem dX2_lay_51 : decode cX2_lay 51 = .ok (.if_icmp .lt 13, 3) := by decide +kernel
theorem dX2_lay_54 : decode cX2_lay 54 = .ok (.new 49, 3) := by decide +kernel
theorem dX2_lay_57 : decode cX2_lay 57 = .ok (.dup, 1) := by decide +kernel
theorem dX2_lay_58 : decode cX2_lay 58 = .ok (.ldc 94, 2) := by decide +kernel
theorem dX2_lay_60 : decode cX2_lay 60 = .ok (.invokespecial 53, 3) := by decide +kernel
theorem dX2_lay_63 : decode cX2_lay 63 = .ok (.athrow, 1) := by decide +kernel
theorem dX2_lay_64 : decode cX2_lay 64 = .ok (.aload_n 0, 1) := by decide +kernel
theorem dX2_lay_65 : decode cX2_lay 65 = .ok (.getfield 23, 3) := by decide +kernel
theorem dX2_lay_68 : decode cX2_lay 68 = .ok (.iload_n 1, 1) := by decide +kernel
theorem dX2_lay_69 : decode cX2_lay 69 = .ok (.iaload, 1) := by decide +kernel
theorem dX2_lay_70 : decode cX2_lay 70 = .ok (.iload 4, 2) := by decide +kernel
theorem dX2_lay_72 : decode cX2_lay 72 = .ok (.if_icmp .ge 13, 3) := by decide +kernel
theorem dX2_lay_75 : decode cX2_lay 75 = .ok (.new 49, 3) := by decide +kernel
theorem dX2_lay_78 : decode cX2_lay 78 = .ok (.dup, 1) := by decide +kernel
theorem dX2_lay_79 : decode cX2_lay 79 = .ok (.ldc 96, 2) := by decide +kernel
theorem dX2_lay_81 : decode cX2_lay 81 = .ok (.invokespecial 53, 3) := by decide +kernel
theorem dX2_lay_84 : decode cX2_lay 84 = .ok (.athrow, 1) := by decide +kernel
theorem dX2_lay_85 : decode cX2_lay 85 = .ok (.aload_n 0, 1) := by decide +kernel
theorem dX2_lay_86 : decode cX2_lay 86 = .ok (.getfield 23, 3) := by decide +kernel
theorem dX2_lay_89 : decode cX2_lay 89 = .ok (.iload_n 1, 1) := by decide +kernel
theorem dX2_lay_90 : decode cX2_lay 90 = .ok (.dup2, 1) := by decide +kernel
theorem dX2_lay_91 : decode cX2_lay 91 = .ok (.iaload, 1) := by decide +kernel
theorem dX2_lay_92 : decode cX2_lay 92 = .ok (.iload 4, 2) := by decide +kernel
theorem dX2_lay_94 : decode cX2_lay 94 = .ok (.isub, 1) := by decide +kernel
theorem dX2_lay_95 : decode cX2_lay 95 = .ok (.iastore, 1) := by decide +kernel
theorem dX2_lay_96 : decode cX2_lay 96 = .ok (.aload_n 0, 1) := by decide +kernel
theorem dX2_lay_97 : decode cX2_lay 97 = .ok (.getfield 12, 3) := by decide +kernel
theorem dX2_lay_100 : decode cX2_lay 100 = .ok (.iload_n 2, 1) := by decide +kernel
theorem dX2_lay_101 : decode cX2_lay 101 = .ok (.iload_n 3, 1) := by decide +kernel
theorem dX2_lay_102 : decode cX2_lay 102 = .ok (.invokevirtual 75, 3) := by decide +kernel
theorem dX2_lay_105 : decode cX2_lay 105 = .ok (.istore 7, 2) := by decide +kernel
theorem dX2_lay_107 : decode cX2_lay 107 = .ok (.aload_n 0, 1) := by decide +kernel
theorem dX2_lay_108 : decode cX2_lay 108 = .ok (.getfield 19, 3) := by decide +kernel
theorem dX2_lay_111 : decode cX2_lay 111 = .ok (.new 98, 3) := by decide +kernel
theorem dX2_lay_114 : decode cX2_lay 114 = .ok (.dup, 1) := by decide +kernel
theorem dX2_lay_115 : decode cX2_lay 115 = .ok (.iload_n 1, 1) := by decide +kernel
theorem dX2_lay_116 : decode cX2_lay 116 = .ok (.iload_n 2, 1) := by decide +kernel
theorem dX2_lay_117 : decode cX2_lay 117 = .ok (.iload_n 3, 1) := by decide +kernel
theorem dX2_lay_118 : decode cX2_lay 118 = .ok (.iload 4, 2) := by decide +kernel
theorem dX2_lay_120 : decode cX2_lay 120 = .ok (.iload 4, 2) := by decide +kernel
theorem dX2_lay_122 : decode cX2_lay 122 = .ok (.iload 5, 2) := by decide +kernel
theorem dX2_lay_124 : decode cX2_lay 124 = .ok (.iload 6, 2) := by decide +kernel
theorem dX2_lay_126 : decode cX2_lay 126 = .ok (.invokestatic 100, 3) := by decide +kernel
theorem dX2_lay_129 : decode cX2_lay 129 = .ok (.iload 7, 2) := by decide +kernel
theorem dX2_lay_131 : decode cX2_lay 131 = .ok (.invokespecial 104, 3) := by decide +kernel
theorem dX2_lay_134 : decode cX2_lay 134 = .ok (.invokevirtual 107, 3) := by decide +kernel
theorem dX2_lay_137 : decode cX2_lay 137 = .ok (.pop, 1) := by decide +kernel
theorem dX2_lay_138 : decode cX2_lay 138 = .ok (.aload_n 0, 1) := by decide +kernel
theorem dX2_lay_139 : decode cX2_lay 139 = .ok (.getfield 19, 3) := by decide +kernel
theorem dX2_lay_142 : decode cX2_lay 142 = .ok (.invokevirtual 90, 3) := by decide +kernel
theorem dX2_lay_145 : decode cX2_lay 145 = .ok (.iconst 1, 1) := by decide +kernel
theorem dX2_lay_146 : decode cX2_lay 146 = .ok (.isub, 1) := by decide +kernel
theorem dX2_lay_147 : decode cX2_lay 147 = .ok (.ireturn, 1) := by decide +kernel
theorem dX2_takeBack_0 : decode cX2_takeBack 0 = .ok (.aload_n 0, 1) := by decide +kernel
theorem dX2_takeBack_1 : decode cX2_takeBack 1 = .ok (.iload_n 1, 1) := by decide +kernel
theorem dX2_takeBack_2 : decode cX2_takeBack 2 = .ok (.invokevirtual 111, 3) := by decide +kernel
theorem dX2_takeBack_5 : decode cX2_takeBack 5 = .ok (.aload_n 0, 1) := by decide +kernel
theorem dX2_takeBack_6 : decode cX2_takeBack 6 = .ok (.getfield 19, 3) := by decide +kernel
theorem dX2_takeBack_9 : decode cX2_takeBack 9 = .ok (.iload_n 1, 1) := by decide +kernel
theorem dX2_takeBack_10 : decode cX2_takeBack 10 = .ok (.invokevirtual 114, 3) := by decide +kernel
theorem dX2_takeBack_13 : decode cX2_takeBack 13 = .ok (.checkcast 98, 3) := by decide +kernel
theorem dX2_takeBack_16 : decode cX2_takeBack 16 = .ok (.astore_n 2, 1) := by decide +kernel
theorem dX2_takeBack_17 : decode cX2_takeBack 17 = .ok (.aload_n 0, 1) := by decide +kernel
theorem dX2_takeBack_18 : decode cX2_takeBack 18 = .ok (.getfield 23, 3) := by decide +kernel
theorem dX2_takeBack_21 : decode cX2_takeBack 21 = .ok (.aload_n 2, 1) := by decide +kernel
theorem dX2_takeBack_22 : decode cX2_takeBack 22 = .ok (.getfield 118, 3) := by decide +kernel
theorem dX2_takeBack_25 : decode cX2_takeBack 25 = .ok (.dup2, 1) := by decide +kernel
theorem dX2_takeBack_26 : decode cX2_takeBack 26 = .ok (.iaload, 1) := by decide +kernel
theorem dX2_takeBack_27 : decode cX2_takeBack 27 = .ok (.aload_n 2, 1) := by decide +kernel
theorem dX2_takeBack_28 : decode cX2_takeBack 28 = .ok (.getfield 121, 3) := by decide +kernel
theorem dX2_takeBack_31 : decode cX2_takeBack 31 = .ok (.iadd, 1) := by decide +kernel
theorem dX2_takeBack_32 : decode cX2_takeBack 32 = .ok (.iastore, 1) := by decide +kernel
theorem dX2_takeBack_33 : decode cX2_takeBack 33 = .ok (.aload_n 2, 1) := by decide +kernel
theorem dX2_takeBack_34 : decode cX2_takeBack 34 = .ok (.getfield 121, 3) := by decide +kernel
theorem dX2_takeBack_37 : decode cX2_takeBack 37 = .ok (.ireturn, 1) := by decide +kernel
theorem dX2_settle_0 : decode cX2_settle 0 = .ok (.aload_n 0, 1) := by decide +kernel
theorem dX2_settle_1 : decode cX2_settle 1 = .ok (.iload_n 1, 1) := by decide +kernel
theorem dX2_settle_2 : decode cX2_settle 2 = .ok (.invokevirtual 64, 3) := by decide +kernel
theorem dX2_settle_5 : decode cX2_settle 5 = .ok (.aload_n 0, 1) := by decide +kernel
theorem dX2_settle_6 : decode cX2_settle 6 = .ok (.iload_n 1, 1) := by decide +kernel
theorem dX2_settle_7 : decode cX2_settle 7 = .ok (.invokevirtual 124, 3) := by decide +kernel
theorem dX2_settle_10 : decode cX2_settle 10 = .ok (.istore_n 2, 1) := by decide +kernel
theorem dX2_settle_11 : decode cX2_settle 11 = .ok (.iconst 0, 1) := by decide +kernel
theorem dX2_settle_12 : decode cX2_settle 12 = .ok (.istore_n 3, 1) := by decide +kernel
theorem dX2_settle_13 : decode cX2_settle 13 = .ok (.iload_n 3, 1) := by decide +kernel
theorem dX2_settle_14 : decode cX2_settle 14 = .ok (.bipush 6, 2) := by decide +kernel
theorem dX2_settle_16 : decode cX2_settle 16 = .ok (.if_icmp .ge 21, 3) := by decide +kernel
theorem dX2_settle_19 : decode cX2_settle 19 = .ok (.aload_n 0, 1) := by decide +kernel
theorem dX2_settle_20 : decode cX2_settle 20 = .ok (.getfield 23, 3) := by decide +kernel
theorem dX2_settle_23 : decode cX2_settle 23 = .ok (.iload_n 3, 1) := by decide +kernel
theorem dX2_settle_24 : decode cX2_settle 24 = .ok (.aload_n 0, 1) := by decide +kernel
theorem dX2_settle_25 : decode cX2_settle 25 = .ok (.iload_n 3, 1) := by decide +kernel
theorem dX2_settle_26 : decode cX2_settle 26 = .ok (.iload_n 1, 1) := by decide +kernel
theorem dX2_settle_27 : decode cX2_settle 27 = .ok (.invokevirtual 128, 3) := by decide +kernel
theorem dX2_settle_30 : decode cX2_settle 30 = .ok (.iastore, 1) := by decide +kernel
theorem dX2_settle_31 : decode cX2_settle 31 = .ok (.iinc 3 1, 3) := by decide +kernel
theorem dX2_settle_34 : decode cX2_settle 34 = .ok (.goto (-21), 3) := by decide +kernel
theorem dX2_settle_37 : decode cX2_settle 37 = .ok (.aload_n 0, 1) := by decide +kernel
theorem dX2_settle_38 : decode cX2_settle 38 = .ok (.dup, 1) := by decide +kernel
theorem dX2_settle_39 : decode cX2_settle 39 = .ok (.getfield 27, 3) := by decide +kernel
theorem dX2_settle_42 : decode cX2_settle 42 = .ok (.iload_n 2, 1) := by decide +kernel
theorem dX2_settle_43 : decode cX2_settle 43 = .ok (.iadd, 1) := by decide +kernel
theorem dX2_settle_44 : decode cX2_settle 44 = .ok (.putfield 27, 3) := by decide +kernel
theorem dX2_settle_47 : decode cX2_settle 47 = .ok (.aload_n 0, 1) := by decide +kernel
theorem dX2_settle_48 : decode cX2_settle 48 = .ok (.getfield 19, 3) := by decide +kernel
theorem dX2_settle_51 : decode cX2_settle 51 = .ok (.invokevirtual 131, 3) := by decide +kernel
theorem dX2_settle_54 : decode cX2_settle 54 = .ok (.aload_n 0, 1) := by decide +kernel
theorem dX2_settle_55 : decode cX2_settle 55 = .ok (.dup, 1) := by decide +kernel
theorem dX2_settle_56 : decode cX2_settle 56 = .ok (.getfield 134, 3) := by decide +kernel
theorem dX2_settle_59 : decode cX2_settle 59 = .ok (.iconst 1, 1) := by decide +kernel
theorem dX2_settle_60 : decode cX2_settle 60 = .ok (.iadd, 1) := by decide +kernel
theorem dX2_settle_61 : decode cX2_settle 61 = .ok (.putfield 134, 3) := by decide +kernel
theorem dX2_settle_64 : decode cX2_settle 64 = .ok (.iload_n 2, 1) := by decide +kernel
theorem dX2_settle_65 : decode cX2_settle 65 = .ok (.ireturn, 1) := by decide +kernel
theorem dX2_open_0 : decode cX2_open 0 = .ok (.aload_n 0, 1) := by decide +kernel
theorem dX2_open_1 : decode cX2_open 1 = .ok (.getfield 19, 3) := by decide +kernel
theorem dX2_open_4 : decode cX2_open 4 = .ok (.invokevirtual 90, 3) := by decide +kernel
theorem dX2_open_7 : decode cX2_open 7 = .ok (.ireturn, 1) := by decide +kernel
theorem dX2_bank_0 : decode cX2_bank 0 = .ok (.aload_n 0, 1) := by decide +kernel
theorem dX2_bank_1 : decode cX2_bank 1 = .ok (.getfield 27, 3) := by decide +kernel
theorem dX2_bank_4 : decode cX2_bank 4 = .ok (.ireturn, 1) := by decide +kernel
theorem dX2_rounds_0 : decode cX2_rounds 0 = .ok (.aload_n 0, 1) := by decide +kernel
theorem dX2_rounds_1 : decode cX2_rounds 1 = .ok (.getfield 134, 3) := by decide +kernel
theorem dX2_rounds_4 : decode cX2_rounds 4 = .ok (.ireturn, 1) := by decide +kernel
theorem dX2_purseOf_0 : decode cX2_purseOf 0 = .ok (.iload_n 1, 1) := by decide +kernel
theorem dX2_purseOf_1 : decode cX2_purseOf 1 = .ok (.invokestatic 79, 3) := by decide +kernel
theorem dX2_purseOf_4 : decode cX2_purseOf 4 = .ok (.aload_n 0, 1) := by decide +kernel
theorem dX2_purseOf_5 : decode cX2_purseOf 5 = .ok (.getfield 23, 3) := by decide +kernel
theorem dX2_purseOf_8 : decode cX2_purseOf 8 = .ok (.iload_n 1, 1) := by decide +kernel
theorem dX2_purseOf_9 : decode cX2_purseOf 9 = .ok (.iaload, 1) := by decide +kernel
theorem dX2_purseOf_10 : decode cX2_purseOf 10 = .ok (.ireturn, 1) := by decide +kernel
theorem dX2_patronOf_0 : decode cX2_patronOf 0 = .ok (.aload_n 0, 1) := by decide +kernel
theorem dX2_patronOf_1 : decode cX2_patronOf 1 = .ok (.iload_n 1, 1) := by decide +kernel
theorem dX2_patronOf_2 : decode cX2_patronOf 2 = .ok (.invokevirtual 111, 3) := by decide +kernel
theorem dX2_patronOf_5 : decode cX2_patronOf 5 = .ok (.aload_n 0, 1) := by decide +kernel
theorem dX2_patronOf_6 : decode cX2_patronOf 6 = .ok (.getfield 19, 3) := by decide +kernel
theorem dX2_patronOf_9 : decode cX2_patronOf 9 = .ok (.iload_n 1, 1) := by decide +kernel
theorem dX2_patronOf_10 : decode cX2_patronOf 10 = .ok (.invokevirtual 137, 3) := by decide +kernel
theorem dX2_patronOf_13 : decode cX2_patronOf 13 = .ok (.checkcast 98, 3) := by decide +kernel
theorem dX2_patronOf_16 : decode cX2_patronOf 16 = .ok (.getfield 118, 3) := by decide +kernel
theorem dX2_patronOf_19 : decode cX2_patronOf 19 = .ok (.ireturn, 1) := by decide +kernel
theorem dX2_stakeOf_0 : decode cX2_stakeOf 0 = .ok (.aload_n 0, 1) := by decide +kernel
theorem dX2_stakeOf_1 : decode cX2_stakeOf 1 = .ok (.iload_n 1, 1) := by decide +kernel
theorem dX2_stakeOf_2 : decode cX2_stakeOf 2 = .ok (.invokevirtual 111, 3) := by decide +kernel
theorem dX2_stakeOf_5 : decode cX2_stakeOf 5 = .ok (.aload_n 0, 1) := by decide +kernel
theorem dX2_stakeOf_6 : decode cX2_stakeOf 6 = .ok (.getfield 19, 3) := by decide +kernel
theorem dX2_stakeOf_9 : decode cX2_stakeOf 9 = .ok (.iload_n 1, 1) := by decide +kernel
theorem dX2_stakeOf_10 : decode cX2_stakeOf 10 = .ok (.invokevirtual 137, 3) := by decide +kernel
theorem dX2_stakeOf_13 : decode cX2_stakeOf 13 = .ok (.checkcast 98, 3) := by decide +kernel
theorem dX2_stakeOf_16 : decode cX2_stakeOf 16 = .ok (.getfield 121, 3) := by decide +kernel
theorem dX2_stakeOf_19 : decode cX2_stakeOf 19 = .ok (.ireturn, 1) := by decide +kernel
theorem dX2_bringsOf_0 : decode cX2_bringsOf 0 = .ok (.aload_n 0, 1) := by decide +kernel
theorem dX2_bringsOf_1 : decode cX2_bringsOf 1 = .ok (.iload_n 1, 1) := by decide +kernel
theorem dX2_bringsOf_2 : decode cX2_bringsOf 2 = .ok (.invokevirtual 111, 3) := by decide +kernel
theorem dX2_bringsOf_5 : decode cX2_bringsOf 5 = .ok (.aload_n 0, 1) := by decide +kernel
theorem dX2_bringsOf_6 : decode cX2_bringsOf 6 = .ok (.getfield 19, 3) := by decide +kernel
theorem dX2_bringsOf_9 : decode cX2_bringsOf 9 = .ok (.iload_n 1, 1) := by decide +kernel
theorem dX2_bringsOf_10 : decode cX2_bringsOf 10 = .ok (.invokevirtual 137, 3) := by decide +kernel
theorem dX2_bringsOf_13 : decode cX2_bringsOf 13 = .ok (.checkcast 98, 3) := by decide +kernel
theorem dX2_bringsOf_16 : decode cX2_bringsOf 16 = .ok (.getfield 140, 3) := by decide +kernel
theorem dX2_bringsOf_19 : decode cX2_bringsOf 19 = .ok (.ireturn, 1) := by decide +kernel
theorem dX2_staked_0 : decode cX2_staked 0 = .ok (.iconst 0, 1) := by decide +kernel
theorem dX2_staked_1 : decode cX2_staked 1 = .ok (.istore_n 1, 1) := by decide +kernel
theorem dX2_staked_2 : decode cX2_staked 2 = .ok (.iconst 0, 1) := by decide +kernel
theorem dX2_staked_3 : decode cX2_staked 3 = .ok (.istore_n 2, 1) := by decide +kernel
theorem dX2_staked_4 : decode cX2_staked 4 = .ok (.iload_n 2, 1) := by decide +kernel
theorem dX2_staked_5 : decode cX2_staked 5 = .ok (.aload_n 0, 1) := by decide +kernel
theorem dX2_staked_6 : decode cX2_staked 6 = .ok (.getfield 19, 3) := by decide +kernel
theorem dX2_staked_9 : decode cX2_staked 9 = .ok (.invokevirtual 90, 3) := by decide +kernel
theorem dX2_staked_12 : decode cX2_staked 12 = .ok (.if_icmp .ge 26, 3) := by decide +kernel
theorem dX2_staked_15 : decode cX2_staked 15 = .ok (.iload_n 1, 1) := by decide +kernel
theorem dX2_staked_16 : decode cX2_staked 16 = .ok (.aload_n 0, 1) := by decide +kernel
theorem dX2_staked_17 : decode cX2_staked 17 = .ok (.getfield 19, 3) := by decide +kernel
theorem dX2_staked_20 : decode cX2_staked 20 = .ok (.iload_n 2, 1) := by decide +kernel
theorem dX2_staked_21 : decode cX2_staked 21 = .ok (.invokevirtual 137, 3) := by decide +kernel
theorem dX2_staked_24 : decode cX2_staked 24 = .ok (.checkcast 98, 3) := by decide +kernel
theorem dX2_staked_27 : decode cX2_staked 27 = .ok (.getfield 121, 3) := by decide +kernel
theorem dX2_staked_30 : decode cX2_staked 30 = .ok (.iadd, 1) := by decide +kernel
theorem dX2_staked_31 : decode cX2_staked 31 = .ok (.istore_n 1, 1) := by decide +kernel
theorem dX2_staked_32 : decode cX2_staked 32 = .ok (.iinc 2 1, 3) := by decide +kernel
theorem dX2_staked_35 : decode cX2_staked 35 = .ok (.goto (-31), 3) := by decide +kernel
theorem dX2_staked_38 : decode cX2_staked 38 = .ok (.iload_n 1, 1) := by decide +kernel
theorem dX2_staked_39 : decode cX2_staked 39 = .ok (.ireturn, 1) := by decide +kernel
theorem dX2_edgeTop_0 : decode cX2_edgeTop 0 = .ok (.aload_n 0, 1) := by decide +kernel
theorem dX2_edgeTop_1 : decode cX2_edgeTop 1 = .ok (.iload_n 1, 1) := by decide +kernel
theorem dX2_edgeTop_2 : decode cX2_edgeTop 2 = .ok (.invokevirtual 111, 3) := by decide +kernel
theorem dX2_edgeTop_5 : decode cX2_edgeTop 5 = .ok (.aload_n 0, 1) := by decide +kernel
theorem dX2_edgeTop_6 : decode cX2_edgeTop 6 = .ok (.aload_n 0, 1) := by decide +kernel
theorem dX2_edgeTop_7 : decode cX2_edgeTop 7 = .ok (.aload_n 0, 1) := by decide +kernel
theorem dX2_edgeTop_8 : decode cX2_edgeTop 8 = .ok (.getfield 19, 3) := by decide +kernel
theorem dX2_edgeTop_11 : decode cX2_edgeTop 11 = .ok (.iload_n 1, 1) := by decide +kernel
theorem dX2_edgeTop_12 : decode cX2_edgeTop 12 = .ok (.invokevirtual 137, 3) := by decide +kernel
theorem dX2_edgeTop_15 : decode cX2_edgeTop 15 = .ok (.checkcast 98, 3) := by decide +kernel
theorem dX2_edgeTop_18 : decode cX2_edgeTop 18 = .ok (.invokevirtual 143, 3) := by decide +kernel
theorem dX2_edgeTop_21 : decode cX2_edgeTop 21 = .ok (.invokevirtual 147, 3) := by decide +kernel
theorem dX2_edgeTop_24 : decode cX2_edgeTop 24 = .ok (.ireturn, 1) := by decide +kernel
theorem dX2_edgeBottom_0 : decode cX2_edgeBottom 0 = .ok (.aload_n 0, 1) := by decide +kernel
theorem dX2_edgeBottom_1 : decode cX2_edgeBottom 1 = .ok (.iload_n 1, 1) := by decide +kernel
theorem dX2_edgeBottom_2 : decode cX2_edgeBottom 2 = .ok (.invokevirtual 111, 3) := by decide +kernel
theorem dX2_edgeBottom_5 : decode cX2_edgeBottom 5 = .ok (.aload_n 0, 1) := by decide +kernel
theorem dX2_edgeBottom_6 : decode cX2_edgeBottom 6 = .ok (.aload_n 0, 1) := by decide +kernel
theorem dX2_edgeBottom_7 : decode cX2_edgeBottom 7 = .ok (.aload_n 0, 1) := by decide +kernel
theorem dX2_edgeBottom_8 : decode cX2_edgeBottom 8 = .ok (.getfield 19, 3) := by decide +kernel
theorem dX2_edgeBottom_11 : decode cX2_edgeBottom 11 = .ok (.iload_n 1, 1) := by decide +kernel
theorem dX2_edgeBottom_12 : decode cX2_edgeBottom 12 = .ok (.invokevirtual 137, 3) := by decide +kernel
theorem dX2_edgeBottom_15 : decode cX2_edgeBottom 15 = .ok (.checkcast 98, 3) := by decide +kernel
theorem dX2_edgeBottom_18 : decode cX2_edgeBottom 18 = .ok (.invokevirtual 143, 3) := by decide +kernel
theorem dX2_edgeBottom_21 : decode cX2_edgeBottom 21 = .ok (.invokevirtual 150, 3) := by decide +kernel
theorem dX2_edgeBottom_24 : decode cX2_edgeBottom 24 = .ok (.ireturn, 1) := by decide +kernel
theorem dX2_allEdgesTop_0 : decode cX2_allEdgesTop 0 = .ok (.aload_n 0, 1) := by decide +kernel
theorem dX2_allEdgesTop_1 : decode cX2_allEdgesTop 1 = .ok (.aload_n 0, 1) := by decide +kernel
theorem dX2_allEdgesTop_2 : decode cX2_allEdgesTop 2 = .ok (.invokevirtual 153, 3) := by decide +kernel
theorem dX2_allEdgesTop_5 : decode cX2_allEdgesTop 5 = .ok (.invokevirtual 147, 3) := by decide +kernel
theorem dX2_allEdgesTop_8 : decode cX2_allEdgesTop 8 = .ok (.ireturn, 1) := by decide +kernel
theorem dX2_allEdgesBottom_0 : decode cX2_allEdgesBottom 0 = .ok (.aload_n 0, 1) := by decide +kernel
theorem dX2_allEdgesBottom_1 : decode cX2_allEdgesBottom 1 = .ok (.aload_n 0, 1) := by decide +kernel
theorem dX2_allEdgesBottom_2 : decode cX2_allEdgesBottom 2 = .ok (.invokevirtual 153, 3) := by decide +kernel
theorem dX2_allEdgesBottom_5 : decode cX2_allEdgesBottom 5 = .ok (.invokevirtual 150, 3) := by decide +kernel
theorem dX2_allEdgesBottom_8 : decode cX2_allEdgesBottom 8 = .ok (.ireturn, 1) := by decide +kernel
theorem dX2_dearestWager_0 : decode cX2_dearestWager 0 = .ok (.iconst (-1), 1) := by decide +kernel
theorem dX2_dearestWager_1 : decode cX2_dearestWager 1 = .ok (.istore_n 1, 1) := by decide +kernel
theorem dX2_dearestWager_2 : decode cX2_dearestWager 2 = .ok (.lconst 0, 1) := by decide +kernel
theorem dX2_dearestWager_3 : decode cX2_dearestWager 3 = .ok (.lstore_n 2, 1) := by decide +kernel
theorem dX2_dearestWager_4 : decode cX2_dearestWager 4 = .ok (.lconst 1, 1) := by decide +kernel
theorem dX2_dearestWager_5 : decode cX2_dearestWager 5 = .ok (.lstore 4, 2) := by decide +kernel
theorem dX2_dearestWager_7 : decode cX2_dearestWager 7 = .ok (.iconst 0, 1) := by decide +kernel
theorem dX2_dearestWager_8 : decode cX2_dearestWager 8 = .ok (.istore 6, 2) := by decide +kernel
theorem dX2_dearestWager_10 : decode cX2_dearestWager 10 = .ok (.iload 6, 2) := by decide +kernel
theorem dX2_dearestWager_12 : decode cX2_dearestWager 12 = .ok (.aload_n 0, 1) := by decide +kernel
theorem dX2_dearestWager_13 : decode cX2_dearestWager 13 = .ok (.getfield 19, 3) := by decide +kernel
theorem dX2_dearestWager_16 : decode cX2_dearestWager 16 = .ok (.invokevirtual 90, 3) := by decide +kernel
theorem dX2_dearestWager_19 : decode cX2_dearestWager 19 = .ok (.if_icmp .ge 67, 3) := by decide +kernel
theorem dX2_dearestWager_22 : decode cX2_dearestWager 22 = .ok (.aload_n 0, 1) := by decide +kernel
theorem dX2_dearestWager_23 : decode cX2_dearestWager 23 = .ok (.getfield 19, 3) := by decide +kernel
theorem dX2_dearestWager_26 : decode cX2_dearestWager 26 = .ok (.iload 6, 2) := by decide +kernel
theorem dX2_dearestWager_28 : decode cX2_dearestWager 28 = .ok (.invokevirtual 137, 3) := by decide +kernel
theorem dX2_dearestWager_31 : decode cX2_dearestWager 31 = .ok (.checkcast 98, 3) := by decide +kernel
theorem dX2_dearestWager_34 : decode cX2_dearestWager 34 = .ok (.astore 7, 2) := by decide +kernel
theorem dX2_dearestWager_36 : decode cX2_dearestWager 36 = .ok (.aload_n 0, 1) := by decide +kernel
theorem dX2_dearestWager_37 : decode cX2_dearestWager 37 = .ok (.aload 7, 2) := by decide +kernel
theorem dX2_dearestWager_39 : decode cX2_dearestWager 39 = .ok (.invokevirtual 143, 3) := by decide +kernel
theorem dX2_dearestWager_42 : decode cX2_dearestWager 42 = .ok (.i2l, 1) := by decide +kernel
theorem dX2_dearestWager_43 : decode cX2_dearestWager 43 = .ok (.lstore 8, 2) := by decide +kernel
theorem dX2_dearestWager_45 : decode cX2_dearestWager 45 = .ok (.iload_n 1, 1) := by decide +kernel
theorem dX2_dearestWager_46 : decode cX2_dearestWager 46 = .ok (.ifCond .lt 20, 3) := by decide +kernel
theorem dX2_dearestWager_49 : decode cX2_dearestWager 49 = .ok (.lload 8, 2) := by decide +kernel
theorem dX2_dearestWager_51 : decode cX2_dearestWager 51 = .ok (.lload 4, 2) := by decide +kernel
theorem dX2_dearestWager_53 : decode cX2_dearestWager 53 = .ok (.lmul, 1) := by decide +kernel
theorem dX2_dearestWager_54 : decode cX2_dearestWager 54 = .ok (.lload_n 2, 1) := by decide +kernel
theorem dX2_dearestWager_55 : decode cX2_dearestWager 55 = .ok (.aload 7, 2) := by decide +kernel
theorem dX2_dearestWager_57 : decode cX2_dearestWager 57 = .ok (.getfield 121, 3) := by decide +kernel
theorem dX2_dearestWager_60 : decode cX2_dearestWager 60 = .ok (.i2l, 1) := by decide +kernel
theorem dX2_dearestWager_61 : decode cX2_dearestWager 61 = .ok (.lmul, 1) := by decide +kernel
theorem dX2_dearestWager_62 : decode cX2_dearestWager 62 = .ok (.lcmp, 1) := by decide +kernel
theorem dX2_dearestWager_63 : decode cX2_dearestWager 63 = .ok (.ifCond .le 17, 3) := by decide +kernel
theorem dX2_dearestWager_66 : decode cX2_dearestWager 66 = .ok (.iload 6, 2) := by decide +kernel
theorem dX2_dearestWager_68 : decode cX2_dearestWager 68 = .ok (.istore_n 1, 1) := by decide +kernel
theorem dX2_dearestWager_69 : decode cX2_dearestWager 69 = .ok (.lload 8, 2) := by decide +kernel
theorem dX2_dearestWager_71 : decode cX2_dearestWager 71 = .ok (.lstore_n 2, 1) := by decide +kernel
theorem dX2_dearestWager_72 : decode cX2_dearestWager 72 = .ok (.aload 7, 2) := by decide +kernel
theorem dX2_dearestWager_74 : decode cX2_dearestWager 74 = .ok (.getfield 121, 3) := by decide +kernel
theorem dX2_dearestWager_77 : decode cX2_dearestWager 77 = .ok (.i2l, 1) := by decide +kernel
theorem dX2_dearestWager_78 : decode cX2_dearestWager 78 = .ok (.lstore 4, 2) := by decide +kernel
theorem dX2_dearestWager_80 : decode cX2_dearestWager 80 = .ok (.iinc 6 1, 3) := by decide +kernel
theorem dX2_dearestWager_83 : decode cX2_dearestWager 83 = .ok (.goto (-73), 3) := by decide +kernel
theorem dX2_dearestWager_86 : decode cX2_dearestWager 86 = .ok (.iload_n 1, 1) := by decide +kernel
theorem dX2_dearestWager_87 : decode cX2_dearestWager 87 = .ok (.ireturn, 1) := by decide +kernel
theorem dX2_gainAt_0 : decode cX2_gainAt 0 = .ok (.aload_n 0, 1) := by decide +kernel
theorem dX2_gainAt_1 : decode cX2_gainAt 1 = .ok (.iload_n 1, 1) := by decide +kernel
theorem dX2_gainAt_2 : decode cX2_gainAt 2 = .ok (.invokevirtual 64, 3) := by decide +kernel
theorem dX2_gainAt_5 : decode cX2_gainAt 5 = .ok (.aload_n 0, 1) := by decide +kernel
theorem dX2_gainAt_6 : decode cX2_gainAt 6 = .ok (.iload_n 1, 1) := by decide +kernel
theorem dX2_gainAt_7 : decode cX2_gainAt 7 = .ok (.invokevirtual 124, 3) := by decide +kernel
theorem dX2_gainAt_10 : decode cX2_gainAt 10 = .ok (.ireturn, 1) := by decide +kernel
theorem dX2_worstGain_0 : decode cX2_worstGain 0 = .ok (.aload_n 0, 1) := by decide +kernel
theorem dX2_worstGain_1 : decode cX2_worstGain 1 = .ok (.aload_n 0, 1) := by decide +kernel
theorem dX2_worstGain_2 : decode cX2_worstGain 2 = .ok (.invokevirtual 156, 3) := by decide +kernel
theorem dX2_worstGain_5 : decode cX2_worstGain 5 = .ok (.invokevirtual 124, 3) := by decide +kernel
theorem dX2_worstGain_8 : decode cX2_worstGain 8 = .ok (.ireturn, 1) := by decide +kernel
theorem dX2_worstOutcome_0 : decode cX2_worstOutcome 0 = .ok (.iconst 0, 1) := by decide +kernel
theorem dX2_worstOutcome_1 : decode cX2_worstOutcome 1 = .ok (.istore_n 1, 1) := by decide +kernel
theorem dX2_worstOutcome_2 : decode cX2_worstOutcome 2 = .ok (.aload_n 0, 1) := by decide +kernel
theorem dX2_worstOutcome_3 : decode cX2_worstOutcome 3 = .ok (.iconst 0, 1) := by decide +kernel
theorem dX2_worstOutcome_4 : decode cX2_worstOutcome 4 = .ok (.invokevirtual 124, 3) := by decide +kernel
theorem dX2_worstOutcome_7 : decode cX2_worstOutcome 7 = .ok (.istore_n 2, 1) := by decide +kernel
theorem dX2_worstOutcome_8 : decode cX2_worstOutcome 8 = .ok (.iconst 1, 1) := by decide +kernel
theorem dX2_worstOutcome_9 : decode cX2_worstOutcome 9 = .ok (.istore_n 3, 1) := by decide +kernel
theorem dX2_worstOutcome_10 : decode cX2_worstOutcome 10 = .ok (.iload_n 3, 1) := by decide +kernel
theorem dX2_worstOutcome_11 : decode cX2_worstOutcome 11 = .ok (.aload_n 0, 1) := by decide +kernel
theorem dX2_worstOutcome_12 : decode cX2_worstOutcome 12 = .ok (.getfield 12, 3) := by decide +kernel
theorem dX2_worstOutcome_15 : decode cX2_worstOutcome 15 = .ok (.getfield 58, 3) := by decide +kernel
theorem dX2_worstOutcome_18 : decode cX2_worstOutcome 18 = .ok (.if_icmp .ge 27, 3) := by decide +kernel
theorem dX2_worstOutcome_21 : decode cX2_worstOutcome 21 = .ok (.aload_n 0, 1) := by decide +kernel
theorem dX2_worstOutcome_22 : decode cX2_worstOutcome 22 = .ok (.iload_n 3, 1) := by decide +kernel
theorem dX2_worstOutcome_23 : decode cX2_worstOutcome 23 = .ok (.invokevirtual 124, 3) := by decide +kernel
theorem dX2_worstOutcome_26 : decode cX2_worstOutcome 26 = .ok (.istore 4, 2) := by decide +kernel
theorem dX2_worstOutcome_28 : decode cX2_worstOutcome 28 = .ok (.iload 4, 2) := by decide +kernel
theorem dX2_worstOutcome_30 : decode cX2_worstOutcome 30 = .ok (.iload_n 2, 1) := by decide +kernel
theorem dX2_worstOutcome_31 : decode cX2_worstOutcome 31 = .ok (.if_icmp .ge 8, 3) := by decide +kernel
theorem dX2_worstOutcome_34 : decode cX2_worstOutcome 34 = .ok (.iload 4, 2) := by decide +kernel
theorem dX2_worstOutcome_36 : decode cX2_worstOutcome 36 = .ok (.istore_n 2, 1) := by decide +kernel
theorem dX2_worstOutcome_37 : decode cX2_worstOutcome 37 = .ok (.iload_n 3, 1) := by decide +kernel
theorem dX2_worstOutcome_38 : decode cX2_worstOutcome 38 = .ok (.istore_n 1, 1) := by decide +kernel
theorem dX2_worstOutcome_39 : decode cX2_worstOutcome 39 = .ok (.iinc 3 1, 3) := by decide +kernel
theorem dX2_worstOutcome_42 : decode cX2_worstOutcome 42 = .ok (.goto (-32), 3) := by decide +kernel
theorem dX2_worstOutcome_45 : decode cX2_worstOutcome 45 = .ok (.iload_n 1, 1) := by decide +kernel
theorem dX2_worstOutcome_46 : decode cX2_worstOutcome 46 = .ok (.ireturn, 1) := by decide +kernel
theorem dX2_purseAt_0 : decode cX2_purseAt 0 = .ok (.iload_n 1, 1) := by decide +kernel
theorem dX2_purseAt_1 : decode cX2_purseAt 1 = .ok (.invokestatic 79, 3) := by decide +kernel
theorem dX2_purseAt_4 : decode cX2_purseAt 4 = .ok (.aload_n 0, 1) := by decide +kernel
theorem dX2_purseAt_5 : decode cX2_purseAt 5 = .ok (.iload_n 2, 1) := by decide +kernel
theorem dX2_purseAt_6 : decode cX2_purseAt 6 = .ok (.invokevirtual 64, 3) := by decide +kernel
theorem dX2_purseAt_9 : decode cX2_purseAt 9 = .ok (.aload_n 0, 1) := by decide +kernel
theorem dX2_purseAt_10 : decode cX2_purseAt 10 = .ok (.iload_n 1, 1) := by decide +kernel
theorem dX2_purseAt_11 : decode cX2_purseAt 11 = .ok (.iload_n 2, 1) := by decide +kernel
theorem dX2_purseAt_12 : decode cX2_purseAt 12 = .ok (.invokevirtual 128, 3) := by decide +kernel
theorem dX2_purseAt_15 : decode cX2_purseAt 15 = .ok (.ireturn, 1) := by decide +kernel
theorem dX2_leastPurse_0 : decode cX2_leastPurse 0 = .ok (.iload_n 1, 1) := by decide +kernel
theorem dX2_leastPurse_1 : decode cX2_leastPurse 1 = .ok (.invokestatic 79, 3) := by decide +kernel
theorem dX2_leastPurse_4 : decode cX2_leastPurse 4 = .ok (.aload_n 0, 1) := by decide +kernel
theorem dX2_leastPurse_5 : decode cX2_leastPurse 5 = .ok (.iload_n 1, 1) := by decide +kernel
theorem dX2_leastPurse_6 : decode cX2_leastPurse 6 = .ok (.iconst 0, 1) := by decide +kernel
theorem dX2_leastPurse_7 : decode cX2_leastPurse 7 = .ok (.invokevirtual 128, 3) := by decide +kernel
theorem dX2_leastPurse_10 : decode cX2_leastPurse 10 = .ok (.istore_n 2, 1) := by decide +kernel
theorem dX2_leastPurse_11 : decode cX2_leastPurse 11 = .ok (.iconst 1, 1) := by decide +kernel
theorem dX2_leastPurse_12 : decode cX2_leastPurse 12 = .ok (.istore_n 3, 1) := by decide +kernel
theorem dX2_leastPurse_13 : decode cX2_leastPurse 13 = .ok (.iload_n 3, 1) := by decide +kernel
theorem dX2_leastPurse_14 : decode cX2_leastPurse 14 = .ok (.aload_n 0, 1) := by decide +kernel
theorem dX2_leastPurse_15 : decode cX2_leastPurse 15 = .ok (.getfield 12, 3) := by decide +kernel
theorem dX2_leastPurse_18 : decode cX2_leastPurse 18 = .ok (.getfield 58, 3) := by decide +kernel
theorem dX2_leastPurse_21 : decode cX2_leastPurse 21 = .ok (.if_icmp .ge 20, 3) := by decide +kernel
theorem dX2_leastPurse_24 : decode cX2_leastPurse 24 = .ok (.iload_n 2, 1) := by decide +kernel
theorem dX2_leastPurse_25 : decode cX2_leastPurse 25 = .ok (.aload_n 0, 1) := by decide +kernel
theorem dX2_leastPurse_26 : decode cX2_leastPurse 26 = .ok (.iload_n 1, 1) := by decide +kernel
theorem dX2_leastPurse_27 : decode cX2_leastPurse 27 = .ok (.iload_n 3, 1) := by decide +kernel
theorem dX2_leastPurse_28 : decode cX2_leastPurse 28 = .ok (.invokevirtual 128, 3) := by decide +kernel
theorem dX2_leastPurse_31 : decode cX2_leastPurse 31 = .ok (.invokestatic 159, 3) := by decide +kernel
theorem dX2_leastPurse_34 : decode cX2_leastPurse 34 = .ok (.istore_n 2, 1) := by decide +kernel
theorem dX2_leastPurse_35 : decode cX2_leastPurse 35 = .ok (.iinc 3 1, 3) := by decide +kernel
theorem dX2_leastPurse_38 : decode cX2_leastPurse 38 = .ok (.goto (-25), 3) := by decide +kernel
theorem dX2_leastPurse_41 : decode cX2_leastPurse 41 = .ok (.iload_n 2, 1) := by decide +kernel
theorem dX2_leastPurse_42 : decode cX2_leastPurse 42 = .ok (.ireturn, 1) := by decide +kernel
theorem dX2_isHedged_0 : decode cX2_isHedged 0 = .ok (.iload_n 1, 1) := by decide +kernel
theorem dX2_isHedged_1 : decode cX2_isHedged 1 = .ok (.invokestatic 79, 3) := by decide +kernel
theorem dX2_isHedged_4 : decode cX2_isHedged 4 = .ok (.aload_n 0, 1) := by decide +kernel
theorem dX2_isHedged_5 : decode cX2_isHedged 5 = .ok (.iload_n 1, 1) := by decide +kernel
theorem dX2_isHedged_6 : decode cX2_isHedged 6 = .ok (.iconst 0, 1) := by decide +kernel
theorem dX2_isHedged_7 : decode cX2_isHedged 7 = .ok (.invokevirtual 128, 3) := by decide +kernel
theorem dX2_isHedged_10 : decode cX2_isHedged 10 = .ok (.istore_n 2, 1) := by decide +kernel
theorem dX2_isHedged_11 : decode cX2_isHedged 11 = .ok (.iconst 1, 1) := by decide +kernel
theorem dX2_isHedged_12 : decode cX2_isHedged 12 = .ok (.istore_n 3, 1) := by decide +kernel
theorem dX2_isHedged_13 : decode cX2_isHedged 13 = .ok (.iload_n 3, 1) := by decide +kernel
theorem dX2_isHedged_14 : decode cX2_isHedged 14 = .ok (.aload_n 0, 1) := by decide +kernel
theorem dX2_isHedged_15 : decode cX2_isHedged 15 = .ok (.getfield 12, 3) := by decide +kernel
theorem dX2_isHedged_18 : decode cX2_isHedged 18 = .ok (.getfield 58, 3) := by decide +kernel
theorem dX2_isHedged_21 : decode cX2_isHedged 21 = .ok (.if_icmp .ge 21, 3) := by decide +kernel
theorem dX2_isHedged_24 : decode cX2_isHedged 24 = .ok (.aload_n 0, 1) := by decide +kernel
theorem dX2_isHedged_25 : decode cX2_isHedged 25 = .ok (.iload_n 1, 1) := by decide +kernel
theorem dX2_isHedged_26 : decode cX2_isHedged 26 = .ok (.iload_n 3, 1) := by decide +kernel
theorem dX2_isHedged_27 : decode cX2_isHedged 27 = .ok (.invokevirtual 128, 3) := by decide +kernel
theorem dX2_isHedged_30 : decode cX2_isHedged 30 = .ok (.iload_n 2, 1) := by decide +kernel
theorem dX2_isHedged_31 : decode cX2_isHedged 31 = .ok (.if_icmp .eq 5, 3) := by decide +kernel
theorem dX2_isHedged_34 : decode cX2_isHedged 34 = .ok (.iconst 0, 1) := by decide +kernel
theorem dX2_isHedged_35 : decode cX2_isHedged 35 = .ok (.ireturn, 1) := by decide +kernel
theorem dX2_isHedged_36 : decode cX2_isHedged 36 = .ok (.iinc 3 1, 3) := by decide +kernel
theorem dX2_isHedged_39 : decode cX2_isHedged 39 = .ok (.goto (-26), 3) := by decide +kernel
theorem dX2_isHedged_42 : decode cX2_isHedged 42 = .ok (.iconst 1, 1) := by decide +kernel
theorem dX2_isHedged_43 : decode cX2_isHedged 43 = .ok (.ireturn, 1) := by decide +kernel
theorem dX2_fairWin_0 : decode cX2_fairWin 0 = .ok (.iload_n 1, 1) := by decide +kernel
theorem dX2_fairWin_1 : decode cX2_fairWin 1 = .ok (.iload_n 2, 1) := by decide +kernel
theorem dX2_fairWin_2 : decode cX2_fairWin 2 = .ok (.invokestatic 71, 3) := by decide +kernel
theorem dX2_fairWin_5 : decode cX2_fairWin 5 = .ok (.iload_n 3, 1) := by decide +kernel
theorem dX2_fairWin_6 : decode cX2_fairWin 6 = .ok (.invokestatic 87, 3) := by decide +kernel
theorem dX2_fairWin_9 : decode cX2_fairWin 9 = .ok (.aload_n 0, 1) := by decide +kernel
theorem dX2_fairWin_10 : decode cX2_fairWin 10 = .ok (.getfield 12, 3) := by decide +kernel
theorem dX2_fairWin_13 : decode cX2_fairWin 13 = .ok (.iload_n 1, 1) := by decide +kernel
theorem dX2_fairWin_14 : decode cX2_fairWin 14 = .ok (.iload_n 2, 1) := by decide +kernel
theorem dX2_fairWin_15 : decode cX2_fairWin 15 = .ok (.invokevirtual 75, 3) := by decide +kernel
theorem dX2_fairWin_18 : decode cX2_fairWin 18 = .ok (.istore 4, 2) := by decide +kernel
theorem dX2_fairWin_20 : decode cX2_fairWin 20 = .ok (.bipush 20, 2) := by decide +kernel
theorem dX2_fairWin_22 : decode cX2_fairWin 22 = .ok (.istore 5, 2) := by decide +kernel
theorem dX2_fairWin_24 : decode cX2_fairWin 24 = .ok (.iload 5, 2) := by decide +kernel
theorem dX2_fairWin_26 : decode cX2_fairWin 26 = .ok (.iconst 1, 1) := by decide +kernel
theorem dX2_fairWin_27 : decode cX2_fairWin 27 = .ok (.if_icmp .lt 34, 3) := by decide +kernel
theorem dX2_fairWin_30 : decode cX2_fairWin 30 = .ok (.aload_n 0, 1) := by decide +kernel
theorem dX2_fairWin_31 : decode cX2_fairWin 31 = .ok (.getfield 12, 3) := by decide +kernel
theorem dX2_fairWin_34 : decode cX2_fairWin 34 = .ok (.bipush 100, 2) := by decide +kernel
theorem dX2_fairWin_36 : decode cX2_fairWin 36 = .ok (.bipush 100, 2) := by decide +kernel
theorem dX2_fairWin_38 : decode cX2_fairWin 38 = .ok (.iload 5, 2) := by decide +kernel
theorem dX2_fairWin_40 : decode cX2_fairWin 40 = .ok (.iload_n 3, 1) := by decide +kernel
theorem dX2_fairWin_41 : decode cX2_fairWin 41 = .ok (.invokestatic 100, 3) := by decide +kernel
theorem dX2_fairWin_44 : decode cX2_fairWin 44 = .ok (.iload 4, 2) := by decide +kernel
theorem dX2_fairWin_46 : decode cX2_fairWin 46 = .ok (.invokevirtual 164, 3) := by decide +kernel
theorem dX2_fairWin_49 : decode cX2_fairWin 49 = .ok (.ifCond .lt 6, 3) := by decide +kernel
theorem dX2_fairWin_52 : decode cX2_fairWin 52 = .ok (.iload 5, 2) := by decide +kernel
theorem dX2_fairWin_54 : decode cX2_fairWin 54 = .ok (.ireturn, 1) := by decide +kernel
theorem dX2_fairWin_55 : decode cX2_fairWin 55 = .ok (.iinc 5 (-1), 3) := by decide +kernel
theorem dX2_fairWin_58 : decode cX2_fairWin 58 = .ok (.goto (-34), 3) := by decide +kernel
theorem dX2_fairWin_61 : decode cX2_fairWin 61 = .ok (.iconst 0, 1) := by decide +kernel
theorem dX2_fairWin_62 : decode cX2_fairWin 62 = .ok (.ireturn, 1) := by decide +kernel
theorem dX2_digest_0 : decode cX2_digest 0 = .ok (.ldc2_w 167, 3) := by decide +kernel
theorem dX2_digest_3 : decode cX2_digest 3 = .ok (.aload_n 0, 1) := by decide +kernel
theorem dX2_digest_4 : decode cX2_digest 4 = .ok (.invokevirtual 169, 3) := by decide +kernel
theorem dX2_digest_7 : decode cX2_digest 7 = .ok (.i2l, 1) := by decide +kernel
theorem dX2_digest_8 : decode cX2_digest 8 = .ok (.invokestatic 171, 3) := by decide +kernel
theorem dX2_digest_11 : decode cX2_digest 11 = .ok (.lstore_n 1, 1) := by decide +kernel
theorem dX2_digest_12 : decode cX2_digest 12 = .ok (.lload_n 1, 1) := by decide +kernel
theorem dX2_digest_13 : decode cX2_digest 13 = .ok (.aload_n 0, 1) := by decide +kernel
theorem dX2_digest_14 : decode cX2_digest 14 = .ok (.invokevirtual 175, 3) := by decide +kernel
theorem dX2_digest_17 : decode cX2_digest 17 = .ok (.i2l, 1) := by decide +kernel
theorem dX2_digest_18 : decode cX2_digest 18 = .ok (.invokestatic 171, 3) := by decide +kernel
theorem dX2_digest_21 : decode cX2_digest 21 = .ok (.lstore_n 1, 1) := by decide +kernel
theorem dX2_digest_22 : decode cX2_digest 22 = .ok (.lload_n 1, 1) := by decide +kernel
theorem dX2_digest_23 : decode cX2_digest 23 = .ok (.aload_n 0, 1) := by decide +kernel
theorem dX2_digest_24 : decode cX2_digest 24 = .ok (.invokevirtual 177, 3) := by decide +kernel
theorem dX2_digest_27 : decode cX2_digest 27 = .ok (.i2l, 1) := by decide +kernel
theorem dX2_digest_28 : decode cX2_digest 28 = .ok (.invokestatic 171, 3) := by decide +kernel
theorem dX2_digest_31 : decode cX2_digest 31 = .ok (.lstore_n 1, 1) := by decide +kernel
theorem dX2_digest_32 : decode cX2_digest 32 = .ok (.lload_n 1, 1) := by decide +kernel
theorem dX2_digest_33 : decode cX2_digest 33 = .ok (.aload_n 0, 1) := by decide +kernel
theorem dX2_digest_34 : decode cX2_digest 34 = .ok (.invokevirtual 180, 3) := by decide +kernel
theorem dX2_digest_37 : decode cX2_digest 37 = .ok (.i2l, 1) := by decide +kernel
theorem dX2_digest_38 : decode cX2_digest 38 = .ok (.invokestatic 171, 3) := by decide +kernel
theorem dX2_digest_41 : decode cX2_digest 41 = .ok (.lstore_n 1, 1) := by decide +kernel
theorem dX2_digest_42 : decode cX2_digest 42 = .ok (.lload_n 1, 1) := by decide +kernel
theorem dX2_digest_43 : decode cX2_digest 43 = .ok (.aload_n 0, 1) := by decide +kernel
theorem dX2_digest_44 : decode cX2_digest 44 = .ok (.invokevirtual 182, 3) := by decide +kernel
theorem dX2_digest_47 : decode cX2_digest 47 = .ok (.i2l, 1) := by decide +kernel
theorem dX2_digest_48 : decode cX2_digest 48 = .ok (.invokestatic 171, 3) := by decide +kernel
theorem dX2_digest_51 : decode cX2_digest 51 = .ok (.lstore_n 1, 1) := by decide +kernel
theorem dX2_digest_52 : decode cX2_digest 52 = .ok (.lload_n 1, 1) := by decide +kernel
