theorem dX2_lowestBottom_19 : decode cX2_lowestBottom 19 = .ok (.ireturn, 1) := by decide +kernel
theorem dX2_commonDivisor_0 : decode cX2_commonDivisor 0 = .ok (.iload_n 0, 1) := by decide +kernel
theorem dX2_commonDivisor_1 : decode cX2_commonDivisor 1 = .ok (.invokestatic 248, 3) := by decide +kernel
theorem dX2_commonDivisor_4 : decode cX2_commonDivisor 4 = .ok (.istore_n 2, 1) := by decide +kernel
theorem dX2_commonDivisor_5 : decode cX2_commonDivisor 5 = .ok (.iload_n 1, 1) := by decide +kernel
theorem dX2_commonDivisor_6 : decode cX2_commonDivisor 6 = .ok (.istore_n 3, 1) := by decide +kernel
theorem dX2_commonDivisor_7 : decode cX2_commonDivisor 7 = .ok (.iconst 0, 1) := by decide +kernel
theorem dX2_commonDivisor_8 : decode cX2_commonDivisor 8 = .ok (.istore 4, 2) := by decide +kernel
theorem dX2_commonDivisor_10 : decode cX2_commonDivisor 10 = .ok (.iload_n 3, 1) := by decide +kernel
theorem dX2_commonDivisor_11 : decode cX2_commonDivisor 11 = .ok (.ifCond .eq 26, 3) := by decide +kernel
theorem dX2_commonDivisor_14 : decode cX2_commonDivisor 14 = .ok (.iload 4, 2) := by decide +kernel
theorem dX2_commonDivisor_16 : decode cX2_commonDivisor 16 = .ok (.bipush 64, 2) := by decide +kernel
theorem dX2_commonDivisor_18 : decode cX2_commonDivisor 18 = .ok (.if_icmp .ge 19, 3) := by decide +kernel
theorem dX2_commonDivisor_21 : decode cX2_commonDivisor 21 = .ok (.iload_n 2, 1) := by decide +kernel
theorem dX2_commonDivisor_22 : decode cX2_commonDivisor 22 = .ok (.iload_n 3, 1) := by decide +kernel
theorem dX2_commonDivisor_23 : decode cX2_commonDivisor 23 = .ok (.irem, 1) := by decide +kernel
theorem dX2_commonDivisor_24 : decode cX2_commonDivisor 24 = .ok (.istore 5, 2) := by decide +kernel
theorem dX2_commonDivisor_26 : decode cX2_commonDivisor 26 = .ok (.iload_n 3, 1) := by decide +kernel
theorem dX2_commonDivisor_27 : decode cX2_commonDivisor 27 = .ok (.istore_n 2, 1) := by decide +kernel
theorem dX2_commonDivisor_28 : decode cX2_commonDivisor 28 = .ok (.iload 5, 2) := by decide +kernel
theorem dX2_commonDivisor_30 : decode cX2_commonDivisor 30 = .ok (.istore_n 3, 1) := by decide +kernel
theorem dX2_commonDivisor_31 : decode cX2_commonDivisor 31 = .ok (.iinc 4 1, 3) := by decide +kernel
theorem dX2_commonDivisor_34 : decode cX2_commonDivisor 34 = .ok (.goto (-24), 3) := by decide +kernel
theorem dX2_commonDivisor_37 : decode cX2_commonDivisor 37 = .ok (.iload_n 2, 1) := by decide +kernel
theorem dX2_commonDivisor_38 : decode cX2_commonDivisor 38 = .ok (.iconst 1, 1) := by decide +kernel
theorem dX2_commonDivisor_39 : decode cX2_commonDivisor 39 = .ok (.invokestatic 251, 3) := by decide +kernel
theorem dX2_commonDivisor_42 : decode cX2_commonDivisor 42 = .ok (.ireturn, 1) := by decide +kernel
theorem dX2_broughtBy_0 : decode cX2_broughtBy 0 = .ok (.iload_n 2, 1) := by decide +kernel
theorem dX2_broughtBy_1 : decode cX2_broughtBy 1 = .ok (.iconst 1, 1) := by decide +kernel
theorem dX2_broughtBy_2 : decode cX2_broughtBy 2 = .ok (.if_icmp .ge 7, 3) := by decide +kernel
theorem dX2_broughtBy_5 : decode cX2_broughtBy 5 = .ok (.iconst 0, 1) := by decide +kernel
theorem dX2_broughtBy_6 : decode cX2_broughtBy 6 = .ok (.goto 8, 3) := by decide +kernel
theorem dX2_broughtBy_9 : decode cX2_broughtBy 9 = .ok (.iload_n 0, 1) := by decide +kernel
theorem dX2_broughtBy_10 : decode cX2_broughtBy 10 = .ok (.iload_n 1, 1) := by decide +kernel
theorem dX2_broughtBy_11 : decode cX2_broughtBy 11 = .ok (.imul, 1) := by decide +kernel
theorem dX2_broughtBy_12 : decode cX2_broughtBy 12 = .ok (.iload_n 2, 1) := by decide +kernel
theorem dX2_broughtBy_13 : decode cX2_broughtBy 13 = .ok (.idiv, 1) := by decide +kernel
theorem dX2_broughtBy_14 : decode cX2_broughtBy 14 = .ok (.ireturn, 1) := by decide +kernel
theorem dX2_isDie_0 : decode cX2_isDie 0 = .ok (.iload_n 0, 1) := by decide +kernel
theorem dX2_isDie_1 : decode cX2_isDie 1 = .ok (.iconst 2, 1) := by decide +kernel
theorem dX2_isDie_2 : decode cX2_isDie 2 = .ok (.if_icmp .lt 13, 3) := by decide +kernel
theorem dX2_isDie_5 : decode cX2_isDie 5 = .ok (.iload_n 0, 1) := by decide +kernel
theorem dX2_isDie_6 : decode cX2_isDie 6 = .ok (.bipush 12, 2) := by decide +kernel
theorem dX2_isDie_8 : decode cX2_isDie 8 = .ok (.if_icmp .gt 7, 3) := by decide +kernel
theorem dX2_isDie_11 : decode cX2_isDie 11 = .ok (.iconst 1, 1) := by decide +kernel
theorem dX2_isDie_12 : decode cX2_isDie 12 = .ok (.goto 4, 3) := by decide +kernel
theorem dX2_isDie_15 : decode cX2_isDie 15 = .ok (.iconst 0, 1) := by decide +kernel
theorem dX2_isDie_16 : decode cX2_isDie 16 = .ok (.ireturn, 1) := by decide +kernel
theorem dX2_isDieOrNone_0 : decode cX2_isDieOrNone 0 = .ok (.iload_n 0, 1) := by decide +kernel
theorem dX2_isDieOrNone_1 : decode cX2_isDieOrNone 1 = .ok (.ifCond .eq 10, 3) := by decide +kernel
theorem dX2_isDieOrNone_4 : decode cX2_isDieOrNone 4 = .ok (.iload_n 0, 1) := by decide +kernel
theorem dX2_isDieOrNone_5 : decode cX2_isDieOrNone 5 = .ok (.invokestatic 31, 3) := by decide +kernel
theorem dX2_isDieOrNone_8 : decode cX2_isDieOrNone 8 = .ok (.ifCond .eq 7, 3) := by decide +kernel
theorem dX2_isDieOrNone_11 : decode cX2_isDieOrNone 11 = .ok (.iconst 1, 1) := by decide +kernel
theorem dX2_isDieOrNone_12 : decode cX2_isDieOrNone 12 = .ok (.goto 4, 3) := by decide +kernel
theorem dX2_isDieOrNone_15 : decode cX2_isDieOrNone 15 = .ok (.iconst 0, 1) := by decide +kernel
theorem dX2_isDieOrNone_16 : decode cX2_isDieOrNone 16 = .ok (.ireturn, 1) := by decide +kernel
theorem dX2_checkOutcome_0 : decode cX2_checkOutcome 0 = .ok (.iload_n 1, 1) := by decide +kernel
theorem dX2_checkOutcome_1 : decode cX2_checkOutcome 1 = .ok (.ifCond .lt 14, 3) := by decide +kernel
theorem dX2_checkOutcome_4 : decode cX2_checkOutcome 4 = .ok (.iload_n 1, 1) := by decide +kernel
theorem dX2_checkOutcome_5 : decode cX2_checkOutcome 5 = .ok (.aload_n 0, 1) := by decide +kernel
theorem dX2_checkOutcome_6 : decode cX2_checkOutcome 6 = .ok (.getfield 12, 3) := by decide +kernel
theorem dX2_checkOutcome_9 : decode cX2_checkOutcome 9 = .ok (.getfield 58, 3) := by decide +kernel
theorem dX2_checkOutcome_12 : decode cX2_checkOutcome 12 = .ok (.if_icmp .lt 14, 3) := by decide +kernel
theorem dX2_checkOutcome_15 : decode cX2_checkOutcome 15 = .ok (.new 254, 3) := by decide +kernel
theorem dX2_checkOutcome_18 : decode cX2_checkOutcome 18 = .ok (.dup, 1) := by decide +kernel
theorem dX2_checkOutcome_19 : decode cX2_checkOutcome 19 = .ok (.ldc_w 256, 3) := by decide +kernel
theorem dX2_checkOutcome_22 : decode cX2_checkOutcome 22 = .ok (.invokespecial 258, 3) := by decide +kernel
theorem dX2_checkOutcome_25 : decode cX2_checkOutcome 25 = .ok (.athrow, 1) := by decide +kernel
theorem dX2_checkOutcome_26 : decode cX2_checkOutcome 26 = .ok (.return_, 1) := by decide +kernel
theorem dX2_checkWager_0 : decode cX2_checkWager 0 = .ok (.iload_n 1, 1) := by decide +kernel
theorem dX2_checkWager_1 : decode cX2_checkWager 1 = .ok (.ifCond .lt 14, 3) := by decide +kernel
theorem dX2_checkWager_4 : decode cX2_checkWager 4 = .ok (.iload_n 1, 1) := by decide +kernel
theorem dX2_checkWager_5 : decode cX2_checkWager 5 = .ok (.aload_n 0, 1) := by decide +kernel
theorem dX2_checkWager_6 : decode cX2_checkWager 6 = .ok (.getfield 19, 3) := by decide +kernel
theorem dX2_checkWager_9 : decode cX2_checkWager 9 = .ok (.invokevirtual 90, 3) := by decide +kernel
theorem dX2_checkWager_12 : decode cX2_checkWager 12 = .ok (.if_icmp .lt 14, 3) := by decide +kernel
theorem dX2_checkWager_15 : decode cX2_checkWager 15 = .ok (.new 254, 3) := by decide +kernel
theorem dX2_checkWager_18 : decode cX2_checkWager 18 = .ok (.dup, 1) := by decide +kernel
theorem dX2_checkWager_19 : decode cX2_checkWager 19 = .ok (.ldc_w 259, 3) := by decide +kernel
theorem dX2_checkWager_22 : decode cX2_checkWager 22 = .ok (.invokespecial 258, 3) := by decide +kernel
theorem dX2_checkWager_25 : decode cX2_checkWager 25 = .ok (.athrow, 1) := by decide +kernel
theorem dX2_checkWager_26 : decode cX2_checkWager 26 = .ok (.return_, 1) := by decide +kernel
theorem dX2_checkPatron_0 : decode cX2_checkPatron 0 = .ok (.iload_n 0, 1) := by decide +kernel
theorem dX2_checkPatron_1 : decode cX2_checkPatron 1 = .ok (.ifCond .lt 9, 3) := by decide +kernel
theorem dX2_checkPatron_4 : decode cX2_checkPatron 4 = .ok (.iload_n 0, 1) := by decide +kernel
theorem dX2_checkPatron_5 : decode cX2_checkPatron 5 = .ok (.bipush 6, 2) := by decide +kernel
theorem dX2_checkPatron_7 : decode cX2_checkPatron 7 = .ok (.if_icmp .lt 14, 3) := by decide +kernel
theorem dX2_checkPatron_10 : decode cX2_checkPatron 10 = .ok (.new 254, 3) := by decide +kernel
theorem dX2_checkPatron_13 : decode cX2_checkPatron 13 = .ok (.dup, 1) := by decide +kernel
theorem dX2_checkPatron_14 : decode cX2_checkPatron 14 = .ok (.ldc_w 261, 3) := by decide +kernel
theorem dX2_checkPatron_17 : decode cX2_checkPatron 17 = .ok (.invokespecial 258, 3) := by decide +kernel
theorem dX2_checkPatron_20 : decode cX2_checkPatron 20 = .ok (.athrow, 1) := by decide +kernel
theorem dX2_checkPatron_21 : decode cX2_checkPatron 21 = .ok (.return_, 1) := by decide +kernel
theorem dX2_checkEvent_0 : decode cX2_checkEvent 0 = .ok (.iload_n 0, 1) := by decide +kernel
theorem dX2_checkEvent_1 : decode cX2_checkEvent 1 = .ok (.ifCond .lt 19, 3) := by decide +kernel
theorem dX2_checkEvent_4 : decode cX2_checkEvent 4 = .ok (.iload_n 0, 1) := by decide +kernel
theorem dX2_checkEvent_5 : decode cX2_checkEvent 5 = .ok (.bipush 10, 2) := by decide +kernel
theorem dX2_checkEvent_7 : decode cX2_checkEvent 7 = .ok (.if_icmp .ge 13, 3) := by decide +kernel
theorem dX2_checkEvent_10 : decode cX2_checkEvent 10 = .ok (.iload_n 1, 1) := by decide +kernel
theorem dX2_checkEvent_11 : decode cX2_checkEvent 11 = .ok (.ifCond .lt 9, 3) := by decide +kernel
theorem dX2_checkEvent_14 : decode cX2_checkEvent 14 = .ok (.iload_n 1, 1) := by decide +kernel
theorem dX2_checkEvent_15 : decode cX2_checkEvent 15 = .ok (.bipush 36, 2) := by decide +kernel
theorem dX2_checkEvent_17 : decode cX2_checkEvent 17 = .ok (.if_icmp .le 14, 3) := by decide +kernel
theorem dX2_checkEvent_20 : decode cX2_checkEvent 20 = .ok (.new 38, 3) := by decide +kernel
theorem dX2_checkEvent_23 : decode cX2_checkEvent 23 = .ok (.dup, 1) := by decide +kernel
theorem dX2_checkEvent_24 : decode cX2_checkEvent 24 = .ok (.ldc_w 263, 3) := by decide +kernel
theorem dX2_checkEvent_27 : decode cX2_checkEvent 27 = .ok (.invokespecial 42, 3) := by decide +kernel
theorem dX2_checkEvent_30 : decode cX2_checkEvent 30 = .ok (.athrow, 1) := by decide +kernel
theorem dX2_checkEvent_31 : decode cX2_checkEvent 31 = .ok (.return_, 1) := by decide +kernel
theorem dX2_checkWin_0 : decode cX2_checkWin 0 = .ok (.iload_n 0, 1) := by decide +kernel
theorem dX2_checkWin_1 : decode cX2_checkWin 1 = .ok (.iconst 1, 1) := by decide +kernel
theorem dX2_checkWin_2 : decode cX2_checkWin 2 = .ok (.if_icmp .lt 9, 3) := by decide +kernel
theorem dX2_checkWin_5 : decode cX2_checkWin 5 = .ok (.iload_n 0, 1) := by decide +kernel
theorem dX2_checkWin_6 : decode cX2_checkWin 6 = .ok (.bipush 20, 2) := by decide +kernel
theorem dX2_checkWin_8 : decode cX2_checkWin 8 = .ok (.if_icmp .le 14, 3) := by decide +kernel
theorem dX2_checkWin_11 : decode cX2_checkWin 11 = .ok (.new 38, 3) := by decide +kernel
theorem dX2_checkWin_14 : decode cX2_checkWin 14 = .ok (.dup, 1) := by decide +kernel
theorem dX2_checkWin_15 : decode cX2_checkWin 15 = .ok (.ldc_w 265, 3) := by decide +kernel
theorem dX2_checkWin_18 : decode cX2_checkWin 18 = .ok (.invokespecial 42, 3) := by decide +kernel
theorem dX2_checkWin_21 : decode cX2_checkWin 21 = .ok (.athrow, 1) := by decide +kernel
theorem dX2_checkWin_22 : decode cX2_checkWin 22 = .ok (.return_, 1) := by decide +kernel
theorem dX2_checkBase_0 : decode cX2_checkBase 0 = .ok (.iload_n 0, 1) := by decide +kernel
theorem dX2_checkBase_1 : decode cX2_checkBase 1 = .ok (.iconst 1, 1) := by decide +kernel
theorem dX2_checkBase_2 : decode cX2_checkBase 2 = .ok (.if_icmp .lt 9, 3) := by decide +kernel
theorem dX2_checkBase_5 : decode cX2_checkBase 5 = .ok (.iload_n 0, 1) := by decide +kernel
theorem dX2_checkBase_6 : decode cX2_checkBase 6 = .ok (.bipush 10, 2) := by decide +kernel
theorem dX2_checkBase_8 : decode cX2_checkBase 8 = .ok (.if_icmp .le 14, 3) := by decide +kernel
theorem dX2_checkBase_11 : decode cX2_checkBase 11 = .ok (.new 38, 3) := by decide +kernel
theorem dX2_checkBase_14 : decode cX2_checkBase 14 = .ok (.dup, 1) := by decide +kernel
theorem dX2_checkBase_15 : decode cX2_checkBase 15 = .ok (.ldc_w 267, 3) := by decide +kernel
theorem dX2_checkBase_18 : decode cX2_checkBase 18 = .ok (.invokespecial 42, 3) := by decide +kernel
theorem dX2_checkBase_21 : decode cX2_checkBase 21 = .ok (.athrow, 1) := by decide +kernel
theorem dX2_checkBase_22 : decode cX2_checkBase 22 = .ok (.return_, 1) := by decide +kernel
theorem dX3_init_0 : decode cX3_init 0 = .ok (.aload_n 0, 1) := by decide +kernel
theorem dX3_init_1 : decode cX3_init 1 = .ok (.invokespecial 3, 3) := by decide +kernel
theorem dX3_init_4 : decode cX3_init 4 = .ok (.aload_n 0, 1) := by decide +kernel
theorem dX3_init_5 : decode cX3_init 5 = .ok (.iconst 3, 1) := by decide +kernel
theorem dX3_init_6 : decode cX3_init 6 = .ok (.newarray .int, 2) := by decide +kernel
theorem dX3_init_8 : decode cX3_init 8 = .ok (.dup, 1) := by decide +kernel
theorem dX3_init_9 : decode cX3_init 9 = .ok (.iconst 0, 1) := by decide +kernel
theorem dX3_init_10 : decode cX3_init 10 = .ok (.bipush 6, 2) := by decide +kernel
theorem dX3_init_12 : decode cX3_init 12 = .ok (.iastore, 1) := by decide +kernel
theorem dX3_init_13 : decode cX3_init 13 = .ok (.dup, 1) := by decide +kernel
theorem dX3_init_14 : decode cX3_init 14 = .ok (.iconst 1, 1) := by decide +kernel
theorem dX3_init_15 : decode cX3_init 15 = .ok (.bipush 6, 2) := by decide +kernel
theorem dX3_init_17 : decode cX3_init 17 = .ok (.iastore, 1) := by decide +kernel
theorem dX3_init_18 : decode cX3_init 18 = .ok (.dup, 1) := by decide +kernel
theorem dX3_init_19 : decode cX3_init 19 = .ok (.iconst 2, 1) := by decide +kernel
theorem dX3_init_20 : decode cX3_init 20 = .ok (.iconst 1, 1) := by decide +kernel
theorem dX3_init_21 : decode cX3_init 21 = .ok (.iastore, 1) := by decide +kernel
theorem dX3_init_22 : decode cX3_init 22 = .ok (.putfield 9, 3) := by decide +kernel
theorem dX3_init_25 : decode cX3_init 25 = .ok (.aload_n 0, 1) := by decide +kernel
theorem dX3_init_26 : decode cX3_init 26 = .ok (.iconst 2, 1) := by decide +kernel
theorem dX3_init_27 : decode cX3_init 27 = .ok (.putfield 13, 3) := by decide +kernel
theorem dX3_init_30 : decode cX3_init 30 = .ok (.aload_n 0, 1) := by decide +kernel
theorem dX3_init_31 : decode cX3_init 31 = .ok (.bipush 36, 2) := by decide +kernel
theorem dX3_init_33 : decode cX3_init 33 = .ok (.putfield 17, 3) := by decide +kernel
theorem dX3_init_36 : decode cX3_init 36 = .ok (.aload_n 0, 1) := by decide +kernel
theorem dX3_init_37 : decode cX3_init 37 = .ok (.bipush 6, 2) := by decide +kernel
theorem dX3_init_39 : decode cX3_init 39 = .ok (.newarray .int, 2) := by decide +kernel
theorem dX3_init_41 : decode cX3_init 41 = .ok (.dup, 1) := by decide +kernel
theorem dX3_init_42 : decode cX3_init 42 = .ok (.iconst 0, 1) := by decide +kernel
theorem dX3_init_43 : decode cX3_init 43 = .ok (.bipush 100, 2) := by decide +kernel
theorem dX3_init_45 : decode cX3_init 45 = .ok (.iastore, 1) := by decide +kernel
theorem dX3_init_46 : decode cX3_init 46 = .ok (.dup, 1) := by decide +kernel
theorem dX3_init_47 : decode cX3_init 47 = .ok (.iconst 1, 1) := by decide +kernel
theorem dX3_init_48 : decode cX3_init 48 = .ok (.bipush 100, 2) := by decide +kernel
theorem dX3_init_50 : decode cX3_init 50 = .ok (.iastore, 1) := by decide +kernel
theorem dX3_init_51 : decode cX3_init 51 = .ok (.dup, 1) := by decide +kernel
theorem dX3_init_52 : decode cX3_init 52 = .ok (.iconst 2, 1) := by decide +kernel
theorem dX3_init_53 : decode cX3_init 53 = .ok (.bipush 100, 2) := by decide +kernel
theorem dX3_init_55 : decode cX3_init 55 = .ok (.iastore, 1) := by decide +kernel
theorem dX3_init_56 : decode cX3_init 56 = .ok (.dup, 1) := by decide +kernel
theorem dX3_init_57 : decode cX3_init 57 = .ok (.iconst 3, 1) := by decide +kernel
theorem dX3_init_58 : decode cX3_init 58 = .ok (.bipush 100, 2) := by decide +kernel
theorem dX3_init_60 : decode cX3_init 60 = .ok (.iastore, 1) := by decide +kernel
theorem dX3_init_61 : decode cX3_init 61 = .ok (.dup, 1) := by decide +kernel
theorem dX3_init_62 : decode cX3_init 62 = .ok (.iconst 4, 1) := by decide +kernel
theorem dX3_init_63 : decode cX3_init 63 = .ok (.bipush 100, 2) := by decide +kernel
theorem dX3_init_65 : decode cX3_init 65 = .ok (.iastore, 1) := by decide +kernel
theorem dX3_init_66 : decode cX3_init 66 = .ok (.dup, 1) := by decide +kernel
theorem dX3_init_67 : decode cX3_init 67 = .ok (.iconst 5, 1) := by decide +kernel
theorem dX3_init_68 : decode cX3_init 68 = .ok (.bipush 100, 2) := by decide +kernel
theorem dX3_init_70 : decode cX3_init 70 = .ok (.iastore, 1) := by decide +kernel
theorem dX3_init_71 : decode cX3_init 71 = .ok (.putfield 20, 3) := by decide +kernel
theorem dX3_init_74 : decode cX3_init 74 = .ok (.aload_n 0, 1) := by decide +kernel
theorem dX3_init_75 : decode cX3_init 75 = .ok (.sipush 500, 3) := by decide +kernel
theorem dX3_init_78 : decode cX3_init 78 = .ok (.putfield 23, 3) := by decide +kernel
theorem dX3_init_81 : decode cX3_init 81 = .ok (.aload_n 0, 1) := by decide +kernel
theorem dX3_init_82 : decode cX3_init 82 = .ok (.bipush 12, 2) := by decide +kernel
theorem dX3_init_84 : decode cX3_init 84 = .ok (.newarray .int, 2) := by decide +kernel
theorem dX3_init_86 : decode cX3_init 86 = .ok (.putfield 26, 3) := by decide +kernel
theorem dX3_init_89 : decode cX3_init 89 = .ok (.aload_n 0, 1) := by decide +kernel
theorem dX3_init_90 : decode cX3_init 90 = .ok (.bipush 12, 2) := by decide +kernel
theorem dX3_init_92 : decode cX3_init 92 = .ok (.newarray .int, 2) := by decide +kernel
theorem dX3_init_94 : decode cX3_init 94 = .ok (.putfield 29, 3) := by decide +kernel
theorem dX3_init_97 : decode cX3_init 97 = .ok (.aload_n 0, 1) := by decide +kernel
theorem dX3_init_98 : decode cX3_init 98 = .ok (.bipush 12, 2) := by decide +kernel
theorem dX3_init_100 : decode cX3_init 100 = .ok (.newarray .int, 2) := by decide +kernel
theorem dX3_init_102 : decode cX3_init 102 = .ok (.putfield 32, 3) := by decide +kernel
theorem dX3_init_105 : decode cX3_init 105 = .ok (.aload_n 0, 1) := by decide +kernel
theorem dX3_init_106 : decode cX3_init 106 = .ok (.bipush 12, 2) := by decide +kernel
theorem dX3_init_108 : decode cX3_init 108 = .ok (.newarray .int, 2) := by decide +kernel
theorem dX3_init_110 : decode cX3_init 110 = .ok (.putfield 35, 3) := by decide +kernel
theorem dX3_init_113 : decode cX3_init 113 = .ok (.aload_n 0, 1) := by decide +kernel
theorem dX3_init_114 : decode cX3_init 114 = .ok (.bipush 12, 2) := by decide +kernel
theorem dX3_init_116 : decode cX3_init 116 = .ok (.newarray .int, 2) := by decide +kernel
theorem dX3_init_118 : decode cX3_init 118 = .ok (.putfield 38, 3) := by decide +kernel
theorem dX3_init_121 : decode cX3_init 121 = .ok (.aload_n 0, 1) := by decide +kernel
theorem dX3_init_122 : decode cX3_init 122 = .ok (.sipush 20736, 3) := by decide +kernel
theorem dX3_init_125 : decode cX3_init 125 = .ok (.newarray .boolean, 2) := by decide +kernel
theorem dX3_init_127 : decode cX3_init 127 = .ok (.putfield 41, 3) := by decide +kernel
theorem dX3_init_130 : decode cX3_init 130 = .ok (.aload_n 0, 1) := by decide +kernel
theorem dX3_init_131 : decode cX3_init 131 = .ok (.bipush 37, 2) := by decide +kernel
theorem dX3_init_133 : decode cX3_init 133 = .ok (.newarray .int, 2) := by decide +kernel
theorem dX3_init_135 : decode cX3_init 135 = .ok (.putfield 45, 3) := by decide +kernel
theorem dX3_init_138 : decode cX3_init 138 = .ok (.return_, 1) := by decide +kernel
theorem dX3_thrown_0 : decode cX3_thrown 0 = .ok (.aload_n 0, 1) := by decide +kernel
theorem dX3_thrown_1 : decode cX3_thrown 1 = .ok (.getfield 48, 3) := by decide +kernel
theorem dX3_thrown_4 : decode cX3_thrown 4 = .ok (.ireturn, 1) := by decide +kernel
theorem dX3_no_0 : decode cX3_no 0 = .ok (.aload_n 0, 1) := by decide +kernel
theorem dX3_no_1 : decode cX3_no 1 = .ok (.iload_n 1, 1) := by decide +kernel
theorem dX3_no_2 : decode cX3_no 2 = .ok (.putfield 48, 3) := by decide +kernel
theorem dX3_no_5 : decode cX3_no 5 = .ok (.iconst 0, 1) := by decide +kernel
theorem dX3_no_6 : decode cX3_no 6 = .ok (.ireturn, 1) := by decide +kernel
theorem dX3_ok_0 : decode cX3_ok 0 = .ok (.aload_n 0, 1) := by decide +kernel
theorem dX3_ok_1 : decode cX3_ok 1 = .ok (.iconst 0, 1) := by decide +kernel
theorem dX3_ok_2 : decode cX3_ok 2 = .ok (.putfield 48, 3) := by decide +kernel
theorem dX3_ok_5 : decode cX3_ok 5 = .ok (.iload_n 1, 1) := by decide +kernel
theorem dX3_ok_6 : decode cX3_ok 6 = .ok (.ireturn, 1) := by decide +kernel
theorem dX3_isIn_0 : decode cX3_isIn 0 = .ok (.iload_n 0, 1) := by decide +kernel
theorem dX3_isIn_1 : decode cX3_isIn 1 = .ok (.iload_n 1, 1) := by decide +kernel
theorem dX3_isIn_2 : decode cX3_isIn 2 = .ok (.if_icmp .lt 12, 3) := by decide +kernel
theorem dX3_isIn_5 : decode cX3_isIn 5 = .ok (.iload_n 0, 1) := by decide +kernel
theorem dX3_isIn_6 : decode cX3_isIn 6 = .ok (.iload_n 2, 1) := by decide +kernel
theorem dX3_isIn_7 : decode cX3_isIn 7 = .ok (.if_icmp .gt 7, 3) := by decide +kernel
theorem dX3_isIn_10 : decode cX3_isIn 10 = .ok (.iconst 1, 1) := by decide +kernel
theorem dX3_isIn_11 : decode cX3_isIn 11 = .ok (.goto 4, 3) := by decide +kernel
theorem dX3_isIn_14 : decode cX3_isIn 14 = .ok (.iconst 0, 1) := by decide +kernel
theorem dX3_isIn_15 : decode cX3_isIn 15 = .ok (.ireturn, 1) := by decide +kernel
theorem dX3_isWager_0 : decode cX3_isWager 0 = .ok (.iload_n 1, 1) := by decide +kernel
theorem dX3_isWager_1 : decode cX3_isWager 1 = .ok (.iconst 0, 1) := by decide +kernel
theorem dX3_isWager_2 : decode cX3_isWager 2 = .ok (.aload_n 0, 1) := by decide +kernel
theorem dX3_isWager_3 : decode cX3_isWager 3 = .ok (.getfield 51, 3) := by decide +kernel
theorem dX3_isWager_6 : decode cX3_isWager 6 = .ok (.iconst 1, 1) := by decide +kernel
theorem dX3_isWager_7 : decode cX3_isWager 7 = .ok (.isub, 1) := by decide +kernel
theorem dX3_isWager_8 : decode cX3_isWager 8 = .ok (.invokestatic 54, 3) := by decide +kernel
theorem dX3_isWager_11 : decode cX3_isWager 11 = .ok (.ireturn, 1) := by decide +kernel
theorem dX3_isOutcome_0 : decode cX3_isOutcome 0 = .ok (.iload_n 1, 1) := by decide +kernel
theorem dX3_isOutcome_1 : decode cX3_isOutcome 1 = .ok (.iconst 0, 1) := by decide +kernel
theorem dX3_isOutcome_2 : decode cX3_isOutcome 2 = .ok (.aload_n 0, 1) := by decide +kernel
theorem dX3_isOutcome_3 : decode cX3_isOutcome 3 = .ok (.getfield 17, 3) := by decide +kernel
theorem dX3_isOutcome_6 : decode cX3_isOutcome 6 = .ok (.iconst 1, 1) := by decide +kernel
theorem dX3_isOutcome_7 : decode cX3_isOutcome 7 = .ok (.isub, 1) := by decide +kernel
theorem dX3_isOutcome_8 : decode cX3_isOutcome 8 = .ok (.invokestatic 54, 3) := by decide +kernel
theorem dX3_isOutcome_11 : decode cX3_isOutcome 11 = .ok (.ireturn, 1) := by decide +kernel
theorem dX3_isPatron_0 : decode cX3_isPatron 0 = .ok (.iload_n 0, 1) := by decide +kernel
theorem dX3_isPatron_1 : decode cX3_isPatron 1 = .ok (.iconst 0, 1) := by decide +kernel
theorem dX3_isPatron_2 : decode cX3_isPatron 2 = .ok (.iconst 5, 1) := by decide +kernel
theorem dX3_isPatron_3 : decode cX3_isPatron 3 = .ok (.invokestatic 54, 3) := by decide +kernel
theorem dX3_isPatron_6 : decode cX3_isPatron 6 = .ok (.ireturn, 1) := by decide +kernel
theorem dX3_isEvent_0 : decode cX3_isEvent 0 = .ok (.iload_n 0, 1) := by decide +kernel
theorem dX3_isEvent_1 : decode cX3_isEvent 1 = .ok (.iconst 0, 1) := by decide +kernel
theorem dX3_isEvent_2 : decode cX3_isEvent 2 = .ok (.bipush 9, 2) := by decide +kernel
theorem dX3_isEvent_4 : decode cX3_isEvent 4 = .ok (.invokestatic 54, 3) := by decide +kernel
theorem dX3_isEvent_7 : decode cX3_isEvent 7 = .ok (.ifCond .eq 17, 3) := by decide +kernel
theorem dX3_isEvent_10 : decode cX3_isEvent 10 = .ok (.iload_n 1, 1) := by decide +kernel
theorem dX3_isEvent_11 : decode cX3_isEvent 11 = .ok (.iconst 0, 1) := by decide +kernel
theorem dX3_isEvent_12 : decode cX3_isEvent 12 = .ok (.bipush 36, 2) := by decide +kernel
theorem dX3_isEvent_14 : decode cX3_isEvent 14 = .ok (.invokestatic 54, 3) := by decide +kernel
theorem dX3_isEvent_17 : decode cX3_isEvent 17 = .ok (.ifCond .eq 7, 3) := by decide +kernel
theorem dX3_isEvent_20 : decode cX3_isEvent 20 = .ok (.iconst 1, 1) := by decide +kernel
theorem dX3_isEvent_21 : decode cX3_isEvent 21 = .ok (.goto 4, 3) := by decide +kernel
theorem dX3_isEvent_24 : decode cX3_isEvent 24 = .ok (.iconst 0, 1) := by decide +kernel
theorem dX3_isEvent_25 : decode cX3_isEvent 25 = .ok (.ireturn, 1) := by decide +kernel
theorem dX3_face_0 : decode cX3_face 0 = .ok (.iload_n 1, 1) := by decide +kernel
theorem dX3_face_1 : decode cX3_face 1 = .ok (.istore_n 3, 1) := by decide +kernel
theorem dX3_face_2 : decode cX3_face 2 = .ok (.iconst 2, 1) := by decide +kernel
theorem dX3_face_3 : decode cX3_face 3 = .ok (.istore 4, 2) := by decide +kernel
theorem dX3_face_5 : decode cX3_face 5 = .ok (.iload 4, 2) := by decide +kernel
theorem dX3_face_7 : decode cX3_face 7 = .ok (.iload_n 2, 1) := by decide +kernel
theorem dX3_face_8 : decode cX3_face 8 = .ok (.if_icmp .le 19, 3) := by decide +kernel
theorem dX3_face_11 : decode cX3_face 11 = .ok (.iload_n 3, 1) := by decide +kernel
theorem dX3_face_12 : decode cX3_face 12 = .ok (.aload_n 0, 1) := by decide +kernel
theorem dX3_face_13 : decode cX3_face 13 = .ok (.getfield 9, 3) := by decide +kernel
theorem dX3_face_16 : decode cX3_face 16 = .ok (.iload 4, 2) := by decide +kernel
theorem dX3_face_18 : decode cX3_face 18 = .ok (.iaload, 1) := by decide +kernel
theorem dX3_face_19 : decode cX3_face 19 = .ok (.idiv, 1) := by decide +kernel
theorem dX3_face_20 : decode cX3_face 20 = .ok (.istore_n 3, 1) := by decide +kernel
theorem dX3_face_21 : decode cX3_face 21 = .ok (.iinc 4 (-1), 3) := by decide +kernel
theorem dX3_face_24 : decode cX3_face 24 = .ok (.goto (-19), 3) := by decide +kernel
theorem dX3_face_27 : decode cX3_face 27 = .ok (.iload_n 3, 1) := by decide +kernel
theorem dX3_face_28 : decode cX3_face 28 = .ok (.aload_n 0, 1) := by decide +kernel
theorem dX3_face_29 : decode cX3_face 29 = .ok (.getfield 9, 3) := by decide +kernel
theorem dX3_face_32 : decode cX3_face 32 = .ok (.iload_n 2, 1) := by decide +kernel
theorem dX3_face_33 : decode cX3_face 33 = .ok (.iaload, 1) := by decide +kernel
theorem dX3_face_34 : decode cX3_face 34 = .ok (.irem, 1) := by decide +kernel
theorem dX3_face_35 : decode cX3_face 35 = .ok (.iconst 1, 1) := by decide +kernel
theorem dX3_face_36 : decode cX3_face 36 = .ok (.iadd, 1) := by decide +kernel
theorem dX3_face_37 : decode cX3_face 37 = .ok (.ireturn, 1) := by decide +kernel
theorem dX3_sum_0 : decode cX3_sum 0 = .ok (.iconst 0, 1) := by decide +kernel
theorem dX3_sum_1 : decode cX3_sum 1 = .ok (.istore_n 2, 1) := by decide +kernel
theorem dX3_sum_2 : decode cX3_sum 2 = .ok (.iconst 0, 1) := by decide +kernel
theorem dX3_sum_3 : decode cX3_sum 3 = .ok (.istore_n 3, 1) := by decide +kernel
theorem dX3_sum_4 : decode cX3_sum 4 = .ok (.iload_n 3, 1) := by decide +kernel
theorem dX3_sum_5 : decode cX3_sum 5 = .ok (.aload_n 0, 1) := by decide +kernel
theorem dX3_sum_6 : decode cX3_sum 6 = .ok (.getfield 13, 3) := by decide +kernel
theorem dX3_sum_9 : decode cX3_sum 9 = .ok (.if_icmp .ge 18, 3) := by decide +kernel
theorem dX3_sum_12 : decode cX3_sum 12 = .ok (.iload_n 2, 1) := by decide +kernel
theorem dX3_sum_13 : decode cX3_sum 13 = .ok (.aload_n 0, 1) := by decide +kernel
theorem dX3_sum_14 : decode cX3_sum 14 = .ok (.iload_n 1, 1) := by decide +kernel
theorem dX3_sum_15 : decode cX3_sum 15 = .ok (.iload_n 3, 1) := by decide +kernel
theorem dX3_sum_16 : decode cX3_sum 16 = .ok (.invokevirtual 58, 3) := by decide +kernel
theorem dX3_sum_19 : decode cX3_sum 19 = .ok (.iadd, 1) := by decide +kernel
theorem dX3_sum_20 : decode cX3_sum 20 = .ok (.istore_n 2, 1) := by decide +kernel
theorem dX3_sum_21 : decode cX3_sum 21 = .ok (.iinc 3 1, 3) := by decide +kernel
theorem dX3_sum_24 : decode cX3_sum 24 = .ok (.goto (-20), 3) := by decide +kernel
theorem dX3_sum_27 : decode cX3_sum 27 = .ok (.iload_n 2, 1) := by decide +kernel
theorem dX3_sum_28 : decode cX3_sum 28 = .ok (.ireturn, 1) := by decide +kernel
theorem dX3_comes_0 : decode cX3_comes 0 = .ok (.iload_n 1, 1) := by decide +kernel
theorem dX3_comes_1 : decode cX3_comes 1 = .ok (.iconst 5, 1) := by decide +kernel
theorem dX3_comes_2 : decode cX3_comes 2 = .ok (.if_icmp .lt 21, 3) := by decide +kernel
theorem dX3_comes_5 : decode cX3_comes 5 = .ok (.aload_n 0, 1) := by decide +kernel
theorem dX3_comes_6 : decode cX3_comes 6 = .ok (.iload_n 1, 1) := by decide +kernel
theorem dX3_comes_7 : decode cX3_comes 7 = .ok (.iconst 5, 1) := by decide +kernel
theorem dX3_comes_8 : decode cX3_comes 8 = .ok (.isub, 1) := by decide +kernel
theorem dX3_comes_9 : decode cX3_comes 9 = .ok (.iload_n 2, 1) := by decide +kernel
theorem dX3_comes_10 : decode cX3_comes 10 = .ok (.iload_n 3, 1) := by decide +kernel
theorem dX3_comes_11 : decode cX3_comes 11 = .ok (.invokevirtual 62, 3) := by decide +kernel
theorem dX3_comes_14 : decode cX3_comes 14 = .ok (.ifCond .ne 7, 3) := by decide +kernel
theorem dX3_comes_17 : decode cX3_comes 17 = .ok (.iconst 1, 1) := by decide +kernel
theorem dX3_comes_18 : decode cX3_comes 18 = .ok (.goto 4, 3) := by decide +kernel
theorem dX3_comes_21 : decode cX3_comes 21 = .ok (.iconst 0, 1) := by decide +kernel
theorem dX3_comes_22 : decode cX3_comes 22 = .ok (.ireturn, 1) := by decide +kernel
theorem dX3_comes_23 : decode cX3_comes 23 = .ok (.iload_n 1, 1) := by decide +kernel
theorem dX3_comes_24 : decode cX3_comes 24 = .ok (.ifCond .ne 18, 3) := by decide +kernel
theorem dX3_comes_27 : decode cX3_comes 27 = .ok (.aload_n 0, 1) := by decide +kernel
theorem dX3_comes_28 : decode cX3_comes 28 = .ok (.iload_n 3, 1) := by decide +kernel
theorem dX3_comes_29 : decode cX3_comes 29 = .ok (.invokevirtual 65, 3) := by decide +kernel
theorem dX3_comes_32 : decode cX3_comes 32 = .ok (.iload_n 2, 1) := by decide +kernel
theorem dX3_comes_33 : decode cX3_comes 33 = .ok (.if_icmp .ne 7, 3) := by decide +kernel
theorem dX3_comes_36 : decode cX3_comes 36 = .ok (.iconst 1, 1) := by decide +kernel
theorem dX3_comes_37 : decode cX3_comes 37 = .ok (.goto 4, 3) := by decide +kernel
theorem dX3_comes_40 : decode cX3_comes 40 = .ok (.iconst 0, 1) := by decide +kernel
theorem dX3_comes_41 : decode cX3_comes 41 = .ok (.ireturn, 1) := by decide +kernel
theorem dX3_comes_42 : decode cX3_comes 42 = .ok (.iload_n 1, 1) := by decide +kernel
theorem dX3_comes_43 : decode cX3_comes 43 = .ok (.iconst 1, 1) := by decide +kernel
theorem dX3_comes_44 : decode cX3_comes 44 = .ok (.if_icmp .ne 18, 3) := by decide +kernel
theorem dX3_comes_47 : decode cX3_comes 47 = .ok (.aload_n 0, 1) := by decide +kernel
theorem dX3_comes_48 : decode cX3_comes 48 = .ok (.iload_n 3, 1) := by decide +kernel
theorem dX3_comes_49 : decode cX3_comes 49 = .ok (.invokevirtual 65, 3) := by decide +kernel
theorem dX3_comes_52 : decode cX3_comes 52 = .ok (.iload_n 2, 1) := by decide +kernel
theorem dX3_comes_53 : decode cX3_comes 53 = .ok (.if_icmp .lt 7, 3) := by decide +kernel
theorem dX3_comes_56 : decode cX3_comes 56 = .ok (.iconst 1, 1) := by decide +kernel
theorem dX3_comes_57 : decode cX3_comes 57 = .ok (.goto 4, 3) := by decide +kernel
theorem dX3_comes_60 : decode cX3_comes 60 = .ok (.iconst 0, 1) := by decide +kernel
theorem dX3_comes_61 : decode cX3_comes 61 = .ok (.ireturn, 1) := by decide +kernel
theorem dX3_comes_62 : decode cX3_comes 62 = .ok (.iload_n 1, 1) := by decide +kernel
theorem dX3_comes_63 : decode cX3_comes 63 = .ok (.iconst 2, 1) := by decide +kernel
theorem dX3_comes_64 : decode cX3_comes 64 = .ok (.if_icmp .ne 20, 3) := by decide +kernel
theorem dX3_comes_67 : decode cX3_comes 67 = .ok (.aload_n 0, 1) := by decide +kernel
theorem dX3_comes_68 : decode cX3_comes 68 = .ok (.iload_n 3, 1) := by decide +kernel
theorem dX3_comes_69 : decode cX3_comes 69 = .ok (.invokevirtual 65, 3) := by decide +kernel
theorem dX3_comes_72 : decode cX3_comes 72 = .ok (.iconst 2, 1) := by decide +kernel
theorem dX3_comes_73 : decode cX3_comes 73 = .ok (.irem, 1) := by decide +kernel
theorem dX3_comes_74 : decode cX3_comes 74 = .ok (.iconst 1, 1) := by decide +kernel
theorem dX3_comes_75 : decode cX3_comes 75 = .ok (.if_icmp .ne 7, 3) := by decide +kernel
theorem dX3_comes_78 : decode cX3_comes 78 = .ok (.iconst 1, 1) := by decide +kernel
theorem dX3_comes_79 : decode cX3_comes 79 = .ok (.goto 4, 3) := by decide +kernel
theorem dX3_comes_82 : decode cX3_comes 82 = .ok (.iconst 0, 1) := by decide +kernel
theorem dX3_comes_83 : decode cX3_comes 83 = .ok (.ireturn, 1) := by decide +kernel
theorem dX3_comes_84 : decode cX3_comes 84 = .ok (.iload_n 1, 1) := by decide +kernel
theorem dX3_comes_85 : decode cX3_comes 85 = .ok (.iconst 3, 1) := by decide +kernel
theorem dX3_comes_86 : decode cX3_comes 86 = .ok (.if_icmp .ne 7, 3) := by decide +kernel
theorem dX3_comes_89 : decode cX3_comes 89 = .ok (.iconst 1, 1) := by decide +kernel
theorem dX3_comes_90 : decode cX3_comes 90 = .ok (.goto 4, 3) := by decide +kernel
theorem dX3_comes_93 : decode cX3_comes 93 = .ok (.iconst 0, 1) := by decide +kernel
theorem dX3_comes_94 : decode cX3_comes 94 = .ok (.istore 4, 2) := by decide +kernel
theorem dX3_comes_96 : decode cX3_comes 96 = .ok (.iconst 0, 1) := by decide +kernel
theorem dX3_comes_97 : decode cX3_comes 97 = .ok (.istore 5, 2) := by decide +kernel
theorem dX3_comes_99 : decode cX3_comes 99 = .ok (.iload 5, 2) := by decide +kernel
theorem dX3_comes_101 : decode cX3_comes 101 = .ok (.aload_n 0, 1) := by decide +kernel
theorem dX3_comes_102 : decode cX3_comes 102 = .ok (.getfield 13, 3) := by decide +kernel
theorem dX3_comes_105 : decode cX3_comes 105 = .ok (.if_icmp .ge 66, 3) := by decide +kernel
theorem dX3_comes_108 : decode cX3_comes 108 = .ok (.iload_n 1, 1) := by decide +kernel
theorem dX3_comes_109 : decode cX3_comes 109 = .ok (.iconst 3, 1) := by decide +kernel
theorem dX3_comes_110 : decode cX3_comes 110 = .ok (.if_icmp .ne 32, 3) := by decide +kernel
theorem dX3_comes_113 : decode cX3_comes 113 = .ok (.iload 4, 2) := by decide +kernel
theorem dX3_comes_115 : decode cX3_comes 115 = .ok (.ifCond .eq 23, 3) := by decide +kernel
theorem dX3_comes_118 : decode cX3_comes 118 = .ok (.aload_n 0, 1) := by decide +kernel
theorem dX3_comes_119 : decode cX3_comes 119 = .ok (.iload_n 3, 1) := by decide +kernel
theorem dX3_comes_120 : decode cX3_comes 120 = .ok (.iload 5, 2) := by decide +kernel
theorem dX3_comes_122 : decode cX3_comes 122 = .ok (.invokevirtual 58, 3) := by decide +kernel
theorem dX3_comes_125 : decode cX3_comes 125 = .ok (.aload_n 0, 1) := by decide +kernel
theorem dX3_comes_126 : decode cX3_comes 126 = .ok (.iload_n 3, 1) := by decide +kernel
theorem dX3_comes_127 : decode cX3_comes 127 = .ok (.iconst 0, 1) := by decide +kernel
theorem dX3_comes_128 : decode cX3_comes 128 = .ok (.invokevirtual 58, 3) := by decide +kernel
theorem dX3_comes_131 : decode cX3_comes 131 = .ok (.if_icmp .ne 7, 3) := by decide +kernel
theorem dX3_comes_134 : decode cX3_comes 134 = .ok (.iconst 1, 1) := by decide +kernel
theorem dX3_comes_135 : decode cX3_comes 135 = .ok (.goto 28, 3) := by decide +kernel
theorem dX3_comes_138 : decode cX3_comes 138 = .ok (.iconst 0, 1) := by decide +kernel
theorem dX3_comes_139 : decode cX3_comes 139 = .ok (.goto 24, 3) := by decide +kernel
theorem dX3_comes_142 : decode cX3_comes 142 = .ok (.iload 4, 2) := by decide +kernel
theorem dX3_comes_144 : decode cX3_comes 144 = .ok (.ifCond .ne 14, 3) := by decide +kernel
theorem dX3_comes_147 : decode cX3_comes 147 = .ok (.aload_n 0, 1) := by decide +kernel
theorem dX3_comes_148 : decode cX3_comes 148 = .ok (.iload_n 3, 1) := by decide +kernel
theorem dX3_comes_149 : decode cX3_comes 149 = .ok (.iload 5, 2) := by decide +kernel
theorem dX3_comes_151 : decode cX3_comes 151 = .ok (.invokevirtual 58, 3) := by decide +kernel
theorem dX3_comes_154 : decode cX3_comes 154 = .ok (.iload_n 2, 1) := by decide +kernel
theorem dX3_comes_155 : decode cX3_comes 155 = .ok (.if_icmp .ne 7, 3) := by decide +kernel
theorem dX3_comes_158 : decode cX3_comes 158 = .ok (.iconst 1, 1) := by decide +kernel
theorem dX3_comes_159 : decode cX3_comes 159 = .ok (.goto 4, 3) := by decide +kernel
theorem dX3_comes_162 : decode cX3_comes 162 = .ok (.iconst 0, 1) := by decide +kernel
theorem dX3_comes_163 : decode cX3_comes 163 = .ok (.istore 4, 2) := by decide +kernel
theorem dX3_comes_165 : decode cX3_comes 165 = .ok (.iinc 5 1, 3) := by decide +kernel
theorem dX3_comes_168 : decode cX3_comes 168 = .ok (.goto (-69), 3) := by decide +kernel
theorem dX3_comes_171 : decode cX3_comes 171 = .ok (.iload 4, 2) := by decide +kernel
theorem dX3_comes_173 : decode cX3_comes 173 = .ok (.ireturn, 1) := by decide +kernel
theorem dX3_add_0 : decode cX3_add 0 = .ok (.iconst 0, 1) := by decide +kernel
theorem dX3_add_1 : decode cX3_add 1 = .ok (.istore_n 1, 1) := by decide +kernel
theorem dX3_add_2 : decode cX3_add 2 = .ok (.iload_n 1, 1) := by decide +kernel
theorem dX3_add_3 : decode cX3_add 3 = .ok (.bipush 36, 2) := by decide +kernel
theorem dX3_add_5 : decode cX3_add 5 = .ok (.if_icmp .gt 24, 3) := by decide +kernel
theorem dX3_add_8 : decode cX3_add 8 = .ok (.aload_n 0, 1) := by decide +kernel
theorem dX3_add_9 : decode cX3_add 9 = .ok (.getfield 45, 3) := by decide +kernel
theorem dX3_add_12 : decode cX3_add 12 = .ok (.iload_n 1, 1) := by decide +kernel
theorem dX3_add_13 : decode cX3_add 13 = .ok (.iload_n 1, 1) := by decide +kernel
theorem dX3_add_14 : decode cX3_add 14 = .ok (.ifCond .ne 7, 3) := by decide +kernel
theorem dX3_add_17 : decode cX3_add 17 = .ok (.iconst 1, 1) := by decide +kernel
theorem dX3_add_18 : decode cX3_add 18 = .ok (.goto 4, 3) := by decide +kernel
theorem dX3_add_21 : decode cX3_add 21 = .ok (.iconst 0, 1) := by decide +kernel
theorem dX3_add_22 : decode cX3_add 22 = .ok (.iastore, 1) := by decide +kernel
theorem dX3_add_23 : decode cX3_add 23 = .ok (.iinc 1 1, 3) := by decide +kernel
theorem dX3_add_26 : decode cX3_add 26 = .ok (.goto (-24), 3) := by decide +kernel
theorem dX3_add_29 : decode cX3_add 29 = .ok (.iconst 0, 1) := by decide +kernel
theorem dX3_add_30 : decode cX3_add 30 = .ok (.istore_n 1, 1) := by decide +kernel
theorem dX3_add_31 : decode cX3_add 31 = .ok (.iload_n 1, 1) := by decide +kernel
theorem dX3_add_32 : decode cX3_add 32 = .ok (.aload_n 0, 1) := by decide +kernel
theorem dX3_add_33 : decode cX3_add 33 = .ok (.getfield 13, 3) := by decide +kernel
theorem dX3_add_36 : decode cX3_add 36 = .ok (.if_icmp .ge 67, 3) := by decide +kernel
theorem dX3_add_39 : decode cX3_add 39 = .ok (.bipush 36, 2) := by decide +kernel
theorem dX3_add_41 : decode cX3_add 41 = .ok (.istore_n 2, 1) := by decide +kernel
theorem dX3_add_42 : decode cX3_add 42 = .ok (.iload_n 2, 1) := by decide +kernel
theorem dX3_add_43 : decode cX3_add 43 = .ok (.ifCond .lt 54, 3) := by decide +kernel
theorem dX3_add_46 : decode cX3_add 46 = .ok (.iconst 0, 1) := by decide +kernel
theorem dX3_add_47 : decode cX3_add 47 = .ok (.istore_n 3, 1) := by decide +kernel
theorem dX3_add_48 : decode cX3_add 48 = .ok (.iconst 1, 1) := by decide +kernel
theorem dX3_add_49 : decode cX3_add 49 = .ok (.istore 4, 2) := by decide +kernel
theorem dX3_add_51 : decode cX3_add 51 = .ok (.iload 4, 2) := by decide +kernel
theorem dX3_add_53 : decode cX3_add 53 = .ok (.iload_n 2, 1) := by decide +kernel
theorem dX3_add_54 : decode cX3_add 54 = .ok (.aload_n 0, 1) := by decide +kernel
theorem dX3_add_55 : decode cX3_add 55 = .ok (.getfield 9, 3) := by decide +kernel
theorem dX3_add_58 : decode cX3_add 58 = .ok (.iload_n 1, 1) := by decide +kernel
theorem dX3_add_59 : decode cX3_add 59 = .ok (.iaload, 1) := by decide +kernel
theorem dX3_add_60 : decode cX3_add 60 = .ok (.invokestatic 69, 3) := by decide +kernel
theorem dX3_add_63 : decode cX3_add 63 = .ok (.if_icmp .gt 21, 3) := by decide +kernel
theorem dX3_add_66 : decode cX3_add 66 = .ok (.iload_n 3, 1) := by decide +kernel
theorem dX3_add_67 : decode cX3_add 67 = .ok (.aload_n 0, 1) := by decide +kernel
theorem dX3_add_68 : decode cX3_add 68 = .ok (.getfield 45, 3) := by decide +kernel
theorem dX3_add_71 : decode cX3_add 71 = .ok (.iload_n 2, 1) := by decide +kernel
theorem dX3_add_72 : decode cX3_add 72 = .ok (.iload 4, 2) := by decide +kernel
theorem dX3_add_74 : decode cX3_add 74 = .ok (.isub, 1) := by decide +kernel
theorem dX3_add_75 : decode cX3_add 75 = .ok (.iaload, 1) := by decide +kernel
theorem dX3_add_76 : decode cX3_add 76 = .ok (.iadd, 1) := by decide +kernel
theorem dX3_add_77 : decode cX3_add 77 = .ok (.istore_n 3, 1) := by decide +kernel
theorem dX3_add_78 : decode cX3_add 78 = .ok (.iinc 4 1, 3) := by decide +kernel
theorem dX3_add_81 : decode cX3_add 81 = .ok (.goto (-30), 3) := by decide +kernel
theorem dX3_add_84 : decode cX3_add 84 = .ok (.aload_n 0, 1) := by decide +kernel
theorem dX3_add_85 : decode cX3_add 85 = .ok (.getfield 45, 3) := by decide +kernel
theorem dX3_add_88 : decode cX3_add 88 = .ok (.iload_n 2, 1) := by decide +kernel
theorem dX3_add_89 : decode cX3_add 89 = .ok (.iload_n 3, 1) := by decide +kernel
theorem dX3_add_90 : decode cX3_add 90 = .ok (.iastore, 1) := by decide +kernel
theorem dX3_add_91 : decode cX3_add 91 = .ok (.iinc 2 (-1), 3) := by decide +kernel
theorem dX3_add_94 : decode cX3_add 94 = .ok (.goto (-52), 3) := by decide +kernel
theorem dX3_add_97 : decode cX3_add 97 = .ok (.iinc 1 1, 3) := by decide +kernel
theorem dX3_add_100 : decode cX3_add 100 = .ok (.goto (-69), 3) := by decide +kernel
theorem dX3_add_103 : decode cX3_add 103 = .ok (.return_, 1) := by decide +kernel
theorem dX3_without_0 : decode cX3_without 0 = .ok (.iconst 1, 1) := by decide +kernel
theorem dX3_without_1 : decode cX3_without 1 = .ok (.istore_n 2, 1) := by decide +kernel
theorem dX3_without_2 : decode cX3_without 2 = .ok (.iconst 0, 1) := by decide +kernel
theorem dX3_without_3 : decode cX3_without 3 = .ok (.istore_n 3, 1) := by decide +kernel
theorem dX3_without_4 : decode cX3_without 4 = .ok (.iload_n 3, 1) := by decide +kernel
theorem dX3_without_5 : decode cX3_without 5 = .ok (.aload_n 0, 1) := by decide +kernel
theorem dX3_without_6 : decode cX3_without 6 = .ok (.getfield 13, 3) := by decide +kernel
theorem dX3_without_9 : decode cX3_without 9 = .ok (.if_icmp .ge 43, 3) := by decide +kernel
theorem dX3_without_12 : decode cX3_without 12 = .ok (.iload_n 2, 1) := by decide +kernel
theorem dX3_without_13 : decode cX3_without 13 = .ok (.iload_n 1, 1) := by decide +kernel
theorem dX3_without_14 : decode cX3_without 14 = .ok (.iconst 1, 1) := by decide +kernel
theorem dX3_without_15 : decode cX3_without 15 = .ok (.aload_n 0, 1) := by decide +kernel
theorem dX3_without_16 : decode cX3_without 16 = .ok (.getfield 9, 3) := by decide +kernel
theorem dX3_without_19 : decode cX3_without 19 = .ok (.iload_n 3, 1) := by decide +kernel
theorem dX3_without_20 : decode cX3_without 20 = .ok (.iaload, 1) := by decide +kernel
theorem dX3_without_21 : decode cX3_without 21 = .ok (.invokestatic 54, 3) := by decide +kernel
theorem dX3_without_24 : decode cX3_without 24 = .ok (.ifCond .eq 14, 3) := by decide +kernel
theorem dX3_without_27 : decode cX3_without 27 = .ok (.aload_n 0, 1) := by decide +kernel
theorem dX3_without_28 : decode cX3_without 28 = .ok (.getfield 9, 3) := by decide +kernel
theorem dX3_without_31 : decode cX3_without 31 = .ok (.iload_n 3, 1) := by decide +kernel
theorem dX3_without_32 : decode cX3_without 32 = .ok (.iaload, 1) := by decide +kernel
theorem dX3_without_33 : decode cX3_without 33 = .ok (.iconst 1, 1) := by decide +kernel
theorem dX3_without_34 : decode cX3_without 34 = .ok (.isub, 1) := by decide +kernel
theorem dX3_without_35 : decode cX3_without 35 = .ok (.goto 9, 3) := by decide +kernel
theorem dX3_without_38 : decode cX3_without 38 = .ok (.aload_n 0, 1) := by decide +kernel
theorem dX3_without_39 : decode cX3_without 39 = .ok (.getfield 9, 3) := by decide +kernel
theorem dX3_without_42 : decode cX3_without 42 = .ok (.iload_n 3, 1) := by decide +kernel
theorem dX3_without_43 : decode cX3_without 43 = .ok (.iaload, 1) := by decide +kernel
theorem dX3_without_44 : decode cX3_without 44 = .ok (.imul, 1) := by decide +kernel
theorem dX3_without_45 : decode cX3_without 45 = .ok (.istore_n 2, 1) := by decide +kernel
theorem dX3_without_46 : decode cX3_without 46 = .ok (.iinc 3 1, 3) := by decide +kernel
theorem dX3_without_49 : decode cX3_without 49 = .ok (.goto (-45), 3) := by decide +kernel
theorem dX3_without_52 : decode cX3_without 52 = .ok (.iload_n 2, 1) := by decide +kernel
theorem dX3_without_53 : decode cX3_without 53 = .ok (.ireturn, 1) := by decide +kernel
theorem dX3_many_0 : decode cX3_many 0 = .ok (.iload_n 1, 1) := by decide +kernel
theorem dX3_many_1 : decode cX3_many 1 = .ok (.iconst 5, 1) := by decide +kernel
theorem dX3_many_2 : decode cX3_many 2 = .ok (.if_icmp .lt 17, 3) := by decide +kernel
theorem dX3_many_5 : decode cX3_many 5 = .ok (.aload_n 0, 1) := by decide +kernel
theorem dX3_many_6 : decode cX3_many 6 = .ok (.getfield 17, 3) := by decide +kernel
theorem dX3_many_9 : decode cX3_many 9 = .ok (.aload_n 0, 1) := by decide +kernel
theorem dX3_many_10 : decode cX3_many 10 = .ok (.iload_n 1, 1) := by decide +kernel
theorem dX3_many_11 : decode cX3_many 11 = .ok (.iconst 5, 1) := by decide +kernel
theorem dX3_many_12 : decode cX3_many 12 = .ok (.isub, 1) := by decide +kernel
theorem dX3_many_13 : decode cX3_many 13 = .ok (.iload_n 2, 1) := by decide +kernel
theorem dX3_many_14 : decode cX3_many 14 = .ok (.invokevirtual 74, 3) := by decide +kernel
theorem dX3_many_17 : decode cX3_many 17 = .ok (.isub, 1) := by decide +kernel
theorem dX3_many_18 : decode cX3_many 18 = .ok (.ireturn, 1) := by decide +kernel
theorem dX3_many_19 : decode cX3_many 19 = .ok (.iload_n 1, 1) := by decide +kernel
theorem dX3_many_20 : decode cX3_many 20 = .ok (.iconst 4, 1) := by decide +kernel
theorem dX3_many_21 : decode cX3_many 21 = .ok (.if_icmp .ne 14, 3) := by decide +kernel
theorem dX3_many_24 : decode cX3_many 24 = .ok (.aload_n 0, 1) := by decide +kernel
theorem dX3_many_25 : decode cX3_many 25 = .ok (.getfield 17, 3) := by decide +kernel
theorem dX3_many_28 : decode cX3_many 28 = .ok (.aload_n 0, 1) := by decide +kernel
theorem dX3_many_29 : decode cX3_many 29 = .ok (.iload_n 2, 1) := by decide +kernel
theorem dX3_many_30 : decode cX3_many 30 = .ok (.invokevirtual 77, 3) := by decide +kernel
theorem dX3_many_33 : decode cX3_many 33 = .ok (.isub, 1) := by decide +kernel
theorem dX3_many_34 : decode cX3_many 34 = .ok (.ireturn, 1) := by decide +kernel
theorem dX3_many_35 : decode cX3_many 35 = .ok (.iload_n 1, 1) := by decide +kernel
theorem dX3_many_36 : decode cX3_many 36 = .ok (.iconst 3, 1) := by decide +kernel
theorem dX3_many_37 : decode cX3_many 37 = .ok (.if_icmp .ne 38, 3) := by decide +kernel
theorem dX3_many_40 : decode cX3_many 40 = .ok (.bipush 12, 2) := by decide +kernel
theorem dX3_many_42 : decode cX3_many 42 = .ok (.istore_n 3, 1) := by decide +kernel
theorem dX3_many_43 : decode cX3_many 43 = .ok (.iconst 0, 1) := by decide +kernel
theorem dX3_many_44 : decode cX3_many 44 = .ok (.istore 4, 2) := by decide +kernel
theorem dX3_many_46 : decode cX3_many 46 = .ok (.iload 4, 2) := by decide +kernel
theorem dX3_many_48 : decode cX3_many 48 = .ok (.aload_n 0, 1) := by decide +kernel
theorem dX3_many_49 : decode cX3_many 49 = .ok (.getfield 13, 3) := by decide +kernel
theorem dX3_many_52 : decode cX3_many 52 = .ok (.if_icmp .ge 21, 3) := by decide +kernel
theorem dX3_many_55 : decode cX3_many 55 = .ok (.iload_n 3, 1) := by decide +kernel
theorem dX3_many_56 : decode cX3_many 56 = .ok (.aload_n 0, 1) := by decide +kernel
theorem dX3_many_57 : decode cX3_many 57 = .ok (.getfield 9, 3) := by decide +kernel
theorem dX3_many_60 : decode cX3_many 60 = .ok (.iload 4, 2) := by decide +kernel
theorem dX3_many_62 : decode cX3_many 62 = .ok (.iaload, 1) := by decide +kernel
theorem dX3_many_63 : decode cX3_many 63 = .ok (.invokestatic 69, 3) := by decide +kernel
theorem dX3_many_66 : decode cX3_many 66 = .ok (.istore_n 3, 1) := by decide +kernel
theorem dX3_many_67 : decode cX3_many 67 = .ok (.iinc 4 1, 3) := by decide +kernel
theorem dX3_many_70 : decode cX3_many 70 = .ok (.goto (-24), 3) := by decide +kernel
theorem dX3_many_73 : decode cX3_many 73 = .ok (.iload_n 3, 1) := by decide +kernel
theorem dX3_many_74 : decode cX3_many 74 = .ok (.ireturn, 1) := by decide +kernel
theorem dX3_many_75 : decode cX3_many 75 = .ok (.aload_n 0, 1) := by decide +kernel
theorem dX3_many_76 : decode cX3_many 76 = .ok (.invokevirtual 80, 3) := by decide +kernel
theorem dX3_many_79 : decode cX3_many 79 = .ok (.iconst 0, 1) := by decide +kernel
theorem dX3_many_80 : decode cX3_many 80 = .ok (.istore_n 3, 1) := by decide +kernel
theorem dX3_many_81 : decode cX3_many 81 = .ok (.iconst 0, 1) := by decide +kernel
theorem dX3_many_82 : decode cX3_many 82 = .ok (.istore 4, 2) := by decide +kernel
theorem dX3_many_84 : decode cX3_many 84 = .ok (.iload 4, 2) := by decide +kernel
theorem dX3_many_86 : decode cX3_many 86 = .ok (.bipush 36, 2) := by decide +kernel
theorem dX3_many_88 : decode cX3_many 88 = .ok (.if_icmp .gt 58, 3) := by decide +kernel
theorem dX3_many_91 : decode cX3_many 91 = .ok (.iload_n 3, 1) := by decide +kernel
theorem dX3_many_92 : decode cX3_many 92 = .ok (.iload_n 1, 1) := by decide +kernel
theorem dX3_many_93 : decode cX3_many 93 = .ok (.ifCond .ne 12, 3) := by decide +kernel
theorem dX3_many_96 : decode cX3_many 96 = .ok (.iload 4, 2) := by decide +kernel
theorem dX3_many_98 : decode cX3_many 98 = .ok (.iload_n 2, 1) := by decide +kernel
theorem dX3_many_99 : decode cX3_many 99 = .ok (.if_icmp .ne 38, 3) := by decide +kernel
theorem dX3_many_102 : decode cX3_many 102 = .ok (.goto 25, 3) := by decide +kernel
theorem dX3_many_105 : decode cX3_many 105 = .ok (.iload_n 1, 1) := by decide +kernel
theorem dX3_many_106 : decode cX3_many 106 = .ok (.iconst 1, 1) := by decide +kernel
theorem dX3_many_107 : decode cX3_many 107 = .ok (.if_icmp .ne 12, 3) := by decide +kernel
theorem dX3_many_110 : decode cX3_many 110 = .ok (.iload 4, 2) := by decide +kernel
theorem dX3_many_112 : decode cX3_many 112 = .ok (.iload_n 2, 1) := by decide +kernel
theorem dX3_many_113 : decode cX3_many 113 = .ok (.if_icmp .lt 24, 3) := by decide +kernel
theorem dX3_many_116 : decode cX3_many 116 = .ok (.goto 11, 3) := by decide +kernel
theorem dX3_many_119 : decode cX3_many 119 = .ok (.iload 4, 2) := by decide +kernel
theorem dX3_many_121 : decode cX3_many 121 = .ok (.iconst 2, 1) := by decide +kernel
theorem dX3_many_122 : decode cX3_many 122 = .ok (.irem, 1) := by decide +kernel
theorem dX3_many_123 : decode cX3_many 123 = .ok (.iconst 1, 1) := by decide +kernel
theorem dX3_many_124 : decode cX3_many 124 = .ok (.if_icmp .ne 13, 3) := by decide +kernel
theorem dX3_many_127 : decode cX3_many 127 = .ok (.aload_n 0, 1) := by decide +kernel
theorem dX3_many_128 : decode cX3_many 128 = .ok (.getfield 45, 3) := by decide +kernel
theorem dX3_many_131 : decode cX3_many 131 = .ok (.iload 4, 2) := by decide +kernel
theorem dX3_many_133 : decode cX3_many 133 = .ok (.iaload, 1) := by decide +kernel
theorem dX3_many_134 : decode cX3_many 134 = .ok (.goto 4, 3) := by decide +kernel
theorem dX3_many_137 : decode cX3_many 137 = .ok (.iconst 0, 1) := by decide +kernel
theorem dX3_many_138 : decode cX3_many 138 = .ok (.iadd, 1) := by decide +kernel
theorem dX3_many_139 : decode cX3_many 139 = .ok (.istore_n 3, 1) := by decide +kernel
theorem dX3_many_140 : decode cX3_many 140 = .ok (.iinc 4 1, 3) := by decide +kernel
theorem dX3_many_143 : decode cX3_many 143 = .ok (.goto (-59), 3) := by decide +kernel
theorem dX3_many_146 : decode cX3_many 146 = .ok (.iload_n 3, 1) := by decide +kernel
theorem dX3_many_147 : decode cX3_many 147 = .ok (.ireturn, 1) := by decide +kernel
theorem dX3_edge_0 : decode cX3_edge 0 = .ok (.aload_n 0, 1) := by decide +kernel
theorem dX3_edge_1 : decode cX3_edge 1 = .ok (.aload_n 0, 1) := by decide +kernel
theorem dX3_edge_2 : decode cX3_edge 2 = .ok (.getfield 29, 3) := by decide +kernel
theorem dX3_edge_5 : decode cX3_edge 5 = .ok (.iload_n 1, 1) := by decide +kernel
theorem dX3_edge_6 : decode cX3_edge 6 = .ok (.iaload, 1) := by decide +kernel
theorem dX3_edge_7 : decode cX3_edge 7 = .ok (.aload_n 0, 1) := by decide +kernel
theorem dX3_edge_8 : decode cX3_edge 8 = .ok (.getfield 32, 3) := by decide +kernel
theorem dX3_edge_11 : decode cX3_edge 11 = .ok (.iload_n 1, 1) := by decide +kernel
theorem dX3_edge_12 : decode cX3_edge 12 = .ok (.iaload, 1) := by decide +kernel
theorem dX3_edge_13 : decode cX3_edge 13 = .ok (.invokevirtual 74, 3) := by decide +kernel
theorem dX3_edge_16 : decode cX3_edge 16 = .ok (.istore_n 2, 1) := by decide +kernel
theorem dX3_edge_17 : decode cX3_edge 17 = .ok (.aload_n 0, 1) := by decide +kernel
theorem dX3_edge_18 : decode cX3_edge 18 = .ok (.getfield 35, 3) := by decide +kernel
theorem dX3_edge_21 : decode cX3_edge 21 = .ok (.iload_n 1, 1) := by decide +kernel
theorem dX3_edge_22 : decode cX3_edge 22 = .ok (.iaload, 1) := by decide +kernel
theorem dX3_edge_23 : decode cX3_edge 23 = .ok (.aload_n 0, 1) := by decide +kernel
theorem dX3_edge_24 : decode cX3_edge 24 = .ok (.getfield 17, 3) := by decide +kernel
theorem dX3_edge_27 : decode cX3_edge 27 = .ok (.iload_n 2, 1) := by decide +kernel
theorem dX3_edge_28 : decode cX3_edge 28 = .ok (.isub, 1) := by decide +kernel
theorem dX3_edge_29 : decode cX3_edge 29 = .ok (.imul, 1) := by decide +kernel
theorem dX3_edge_30 : decode cX3_edge 30 = .ok (.aload_n 0, 1) := by decide +kernel
theorem dX3_edge_31 : decode cX3_edge 31 = .ok (.getfield 38, 3) := by decide +kernel
theorem dX3_edge_34 : decode cX3_edge 34 = .ok (.iload_n 1, 1) := by decide +kernel
theorem dX3_edge_35 : decode cX3_edge 35 = .ok (.iaload, 1) := by decide +kernel
theorem dX3_edge_36 : decode cX3_edge 36 = .ok (.iload_n 2, 1) := by decide +kernel
theorem dX3_edge_37 : decode cX3_edge 37 = .ok (.imul, 1) := by decide +kernel
theorem dX3_edge_38 : decode cX3_edge 38 = .ok (.isub, 1) := by decide +kernel
theorem dX3_edge_39 : decode cX3_edge 39 = .ok (.ireturn, 1) := by decide +kernel
theorem dX3_edges_0 : decode cX3_edges 0 = .ok (.iconst 0, 1) := by decide +kernel
theorem dX3_edges_1 : decode cX3_edges 1 = .ok (.istore_n 1, 1) := by decide +kernel
theorem dX3_edges_2 : decode cX3_edges 2 = .ok (.iconst 0, 1) := by decide +kernel
theorem dX3_edges_3 : decode cX3_edges 3 = .ok (.istore_n 2, 1) := by decide +kernel
theorem dX3_edges_4 : decode cX3_edges 4 = .ok (.iload_n 2, 1) := by decide +kernel
theorem dX3_edges_5 : decode cX3_edges 5 = .ok (.aload_n 0, 1) := by decide +kernel
theorem dX3_edges_6 : decode cX3_edges 6 = .ok (.getfield 51, 3) := by decide +kernel
theorem dX3_edges_9 : decode cX3_edges 9 = .ok (.if_icmp .ge 17, 3) := by decide +kernel
theorem dX3_edges_12 : decode cX3_edges 12 = .ok (.iload_n 1, 1) := by decide +kernel
theorem dX3_edges_13 : decode cX3_edges 13 = .ok (.aload_n 0, 1) := by decide +kernel
theorem dX3_edges_14 : decode cX3_edges 14 = .ok (.iload_n 2, 1) := by decide +kernel
theorem dX3_edges_15 : decode cX3_edges 15 = .ok (.invokevirtual 83, 3) := by decide +kernel
theorem dX3_edges_18 : decode cX3_edges 18 = .ok (.iadd, 1) := by decide +kernel
theorem dX3_edges_19 : decode cX3_edges 19 = .ok (.istore_n 1, 1) := by decide +kernel
theorem dX3_edges_20 : decode cX3_edges 20 = .ok (.iinc 2 1, 3) := by decide +kernel
theorem dX3_edges_23 : decode cX3_edges 23 = .ok (.goto (-19), 3) := by decide +kernel
theorem dX3_edges_26 : decode cX3_edges 26 = .ok (.iload_n 1, 1) := by decide +kernel
theorem dX3_edges_27 : decode cX3_edges 27 = .ok (.ireturn, 1) := by decide +kernel
theorem dX3_divisor_0 : decode cX3_divisor 0 = .ok (.iload_n 0, 1) := by decide +kernel
theorem dX3_divisor_1 : decode cX3_divisor 1 = .ok (.invokestatic 86, 3) := by decide +kernel
theorem dX3_divisor_4 : decode cX3_divisor 4 = .ok (.istore_n 2, 1) := by decide +kernel
theorem dX3_divisor_5 : decode cX3_divisor 5 = .ok (.iload_n 1, 1) := by decide +kernel
theorem dX3_divisor_6 : decode cX3_divisor 6 = .ok (.istore_n 3, 1) := by decide +kernel
theorem dX3_divisor_7 : decode cX3_divisor 7 = .ok (.iload_n 2, 1) := by decide +kernel
theorem dX3_divisor_8 : decode cX3_divisor 8 = .ok (.ifCond .eq 16, 3) := by decide +kernel
theorem dX3_divisor_11 : decode cX3_divisor 11 = .ok (.iload_n 3, 1) := by decide +kernel
theorem dX3_divisor_12 : decode cX3_divisor 12 = .ok (.iload_n 2, 1) := by decide +kernel
theorem dX3_divisor_13 : decode cX3_divisor 13 = .ok (.irem, 1) := by decide +kernel
theorem dX3_divisor_14 : decode cX3_divisor 14 = .ok (.istore 4, 2) := by decide +kernel
theorem dX3_divisor_16 : decode cX3_divisor 16 = .ok (.iload_n 2, 1) := by decide +kernel
theorem dX3_divisor_17 : decode cX3_divisor 17 = .ok (.istore_n 3, 1) := by decide +kernel
theorem dX3_divisor_18 : decode cX3_divisor 18 = .ok (.iload 4, 2) := by decide +kernel
theorem dX3_divisor_20 : decode cX3_divisor 20 = .ok (.istore_n 2, 1) := by decide +kernel
theorem dX3_divisor_21 : decode cX3_divisor 21 = .ok (.goto (-14), 3) := by decide +kernel
theorem dX3_divisor_24 : decode cX3_divisor 24 = .ok (.iload_n 3, 1) := by decide +kernel
theorem dX3_divisor_25 : decode cX3_divisor 25 = .ok (.ireturn, 1) := by decide +kernel
theorem dX3_top_0 : decode cX3_top 0 = .ok (.iload_n 1, 1) := by decide +kernel
theorem dX3_top_1 : decode cX3_top 1 = .ok (.iload_n 1, 1) := by decide +kernel
theorem dX3_top_2 : decode cX3_top 2 = .ok (.aload_n 0, 1) := by decide +kernel
theorem dX3_top_3 : decode cX3_top 3 = .ok (.getfield 17, 3) := by decide +kernel
theorem dX3_top_6 : decode cX3_top 6 = .ok (.invokestatic 89, 3) := by decide +kernel
theorem dX3_top_9 : decode cX3_top 9 = .ok (.idiv, 1) := by decide +kernel
theorem dX3_top_10 : decode cX3_top 10 = .ok (.ireturn, 1) := by decide +kernel
theorem dX3_bottom_0 : decode cX3_bottom 0 = .ok (.aload_n 0, 1) := by decide +kernel
theorem dX3_bottom_1 : decode cX3_bottom 1 = .ok (.getfield 17, 3) := by decide +kernel
theorem dX3_bottom_4 : decode cX3_bottom 4 = .ok (.iload_n 1, 1) := by decide +kernel
theorem dX3_bottom_5 : decode cX3_bottom 5 = .ok (.aload_n 0, 1) := by decide +kernel
theorem dX3_bottom_6 : decode cX3_bottom 6 = .ok (.getfield 17, 3) := by decide +kernel
theorem dX3_bottom_9 : decode cX3_bottom 9 = .ok (.invokestatic 89, 3) := by decide +kernel
theorem dX3_bottom_12 : decode cX3_bottom 12 = .ok (.idiv, 1) := by decide +kernel
theorem dX3_bottom_13 : decode cX3_bottom 13 = .ok (.ireturn, 1) := by decide +kernel
theorem dX3_dear_0 : decode cX3_dear 0 = .ok (.iconst (-1), 1) := by decide +kernel
theorem dX3_dear_1 : decode cX3_dear 1 = .ok (.istore_n 1, 1) := by decide +kernel
theorem dX3_dear_2 : decode cX3_dear 2 = .ok (.iconst 0, 1) := by decide +kernel
theorem dX3_dear_3 : decode cX3_dear 3 = .ok (.istore_n 2, 1) := by decide +kernel
theorem dX3_dear_4 : decode cX3_dear 4 = .ok (.iload_n 2, 1) := by decide +kernel
theorem dX3_dear_5 : decode cX3_dear 5 = .ok (.aload_n 0, 1) := by decide +kernel
theorem dX3_dear_6 : decode cX3_dear 6 = .ok (.getfield 51, 3) := by decide +kernel
theorem dX3_dear_9 : decode cX3_dear 9 = .ok (.if_icmp .ge 48, 3) := by decide +kernel
theorem dX3_dear_12 : decode cX3_dear 12 = .ok (.iload_n 1, 1) := by decide +kernel
theorem dX3_dear_13 : decode cX3_dear 13 = .ok (.iconst (-1), 1) := by decide +kernel
theorem dX3_dear_14 : decode cX3_dear 14 = .ok (.if_icmp .eq 35, 3) := by decide +kernel
theorem dX3_dear_17 : decode cX3_dear 17 = .ok (.aload_n 0, 1) := by decide +kernel
theorem dX3_dear_18 : decode cX3_dear 18 = .ok (.iload_n 2, 1) := by decide +kernel
theorem dX3_dear_19 : decode cX3_dear 19 = .ok (.invokevirtual 83, 3) := by decide +kernel
theorem dX3_dear_22 : decode cX3_dear 22 = .ok (.i2l, 1) := by decide +kernel
theorem dX3_dear_23 : decode cX3_dear 23 = .ok (.aload_n 0, 1) := by decide +kernel
theorem dX3_dear_24 : decode cX3_dear 24 = .ok (.getfield 35, 3) := by decide +kernel
theorem dX3_dear_27 : decode cX3_dear 27 = .ok (.iload_n 1, 1) := by decide +kernel
theorem dX3_dear_28 : decode cX3_dear 28 = .ok (.iaload, 1) := by decide +kernel
theorem dX3_dear_29 : decode cX3_dear 29 = .ok (.i2l, 1) := by decide +kernel
theorem dX3_dear_30 : decode cX3_dear 30 = .ok (.lmul, 1) := by decide +kernel
theorem dX3_dear_31 : decode cX3_dear 31 = .ok (.aload_n 0, 1) := by decide +kernel
theorem dX3_dear_32 : decode cX3_dear 32 = .ok (.iload_n 1, 1) := by decide +kernel
theorem dX3_dear_33 : decode cX3_dear 33 = .ok (.invokevirtual 83, 3) := by decide +kernel
theorem dX3_dear_36 : decode cX3_dear 36 = .ok (.i2l, 1) := by decide +kernel
theorem dX3_dear_37 : decode cX3_dear 37 = .ok (.aload_n 0, 1) := by decide +kernel
theorem dX3_dear_38 : decode cX3_dear 38 = .ok (.getfield 35, 3) := by decide +kernel
theorem dX3_dear_41 : decode cX3_dear 41 = .ok (.iload_n 2, 1) := by decide +kernel
theorem dX3_dear_42 : decode cX3_dear 42 = .ok (.iaload, 1) := by decide +kernel
theorem dX3_dear_43 : decode cX3_dear 43 = .ok (.i2l, 1) := by decide +kernel
theorem dX3_dear_44 : decode cX3_dear 44 = .ok (.lmul, 1) := by decide +kernel
theorem dX3_dear_45 : decode cX3_dear 45 = .ok (.lcmp, 1) := by decide +kernel
theorem dX3_dear_46 : decode cX3_dear 46 = .ok (.ifCond .le 5, 3) := by decide +kernel
theorem dX3_dear_49 : decode cX3_dear 49 = .ok (.iload_n 2, 1) := by decide +kernel
theorem dX3_dear_50 : decode cX3_dear 50 = .ok (.istore_n 1, 1) := by decide +kernel
theorem dX3_dear_51 : decode cX3_dear 51 = .ok (.iinc 2 1, 3) := by decide +kernel
theorem dX3_dear_54 : decode cX3_dear 54 = .ok (.goto (-50), 3) := by decide +kernel
theorem dX3_dear_57 : decode cX3_dear 57 = .ok (.iload_n 1, 1) := by decide +kernel
theorem dX3_dear_58 : decode cX3_dear 58 = .ok (.ireturn, 1) := by decide +kernel
theorem dX3_gain_0 : decode cX3_gain 0 = .ok (.iconst 0, 1) := by decide +kernel
theorem dX3_gain_1 : decode cX3_gain 1 = .ok (.istore_n 2, 1) := by decide +kernel
theorem dX3_gain_2 : decode cX3_gain 2 = .ok (.iconst 0, 1) := by decide +kernel
theorem dX3_gain_3 : decode cX3_gain 3 = .ok (.istore_n 3, 1) := by decide +kernel
theorem dX3_gain_4 : decode cX3_gain 4 = .ok (.iload_n 3, 1) := by decide +kernel
theorem dX3_gain_5 : decode cX3_gain 5 = .ok (.aload_n 0, 1) := by decide +kernel
theorem dX3_gain_6 : decode cX3_gain 6 = .ok (.getfield 51, 3) := by decide +kernel
theorem dX3_gain_9 : decode cX3_gain 9 = .ok (.if_icmp .ge 43, 3) := by decide +kernel
theorem dX3_gain_12 : decode cX3_gain 12 = .ok (.iload_n 2, 1) := by decide +kernel
theorem dX3_gain_13 : decode cX3_gain 13 = .ok (.aload_n 0, 1) := by decide +kernel
theorem dX3_gain_14 : decode cX3_gain 14 = .ok (.getfield 41, 3) := by decide +kernel
theorem dX3_gain_17 : decode cX3_gain 17 = .ok (.sipush 1728, 3) := by decide +kernel
theorem dX3_gain_20 : decode cX3_gain 20 = .ok (.iload_n 3, 1) := by decide +kernel
theorem dX3_gain_21 : decode cX3_gain 21 = .ok (.imul, 1) := by decide +kernel
theorem dX3_gain_22 : decode cX3_gain 22 = .ok (.iload_n 1, 1) := by decide +kernel
theorem dX3_gain_23 : decode cX3_gain 23 = .ok (.iadd, 1) := by decide +kernel
theorem dX3_gain_24 : decode cX3_gain 24 = .ok (.baload, 1) := by decide +kernel
theorem dX3_gain_25 : decode cX3_gain 25 = .ok (.ifCond .eq 13, 3) := by decide +kernel
theorem dX3_gain_28 : decode cX3_gain 28 = .ok (.aload_n 0, 1) := by decide +kernel
theorem dX3_gain_29 : decode cX3_gain 29 = .ok (.getfield 38, 3) := by decide +kernel
theorem dX3_gain_32 : decode cX3_gain 32 = .ok (.iload_n 3, 1) := by decide +kernel
theorem dX3_gain_33 : decode cX3_gain 33 = .ok (.iaload, 1) := by decide +kernel
theorem dX3_gain_34 : decode cX3_gain 34 = .ok (.ineg, 1) := by decide +kernel
theorem dX3_gain_35 : decode cX3_gain 35 = .ok (.goto 9, 3) := by decide +kernel
theorem dX3_gain_38 : decode cX3_gain 38 = .ok (.aload_n 0, 1) := by decide +kernel
theorem dX3_gain_39 : decode cX3_gain 39 = .ok (.getfield 35, 3) := by decide +kernel
theorem dX3_gain_42 : decode cX3_gain 42 = .ok (.iload_n 3, 1) := by decide +kernel
theorem dX3_gain_43 : decode cX3_gain 43 = .ok (.iaload, 1) := by decide +kernel
theorem dX3_gain_44 : decode cX3_gain 44 = .ok (.iadd, 1) := by decide +kernel
theorem dX3_gain_45 : decode cX3_gain 45 = .ok (.istore_n 2, 1) := by decide +kernel
theorem dX3_gain_46 : decode cX3_gain 46 = .ok (.iinc 3 1, 3) := by decide +kernel
theorem dX3_gain_49 : decode cX3_gain 49 = .ok (.goto (-45), 3) := by decide +kernel
theorem dX3_gain_52 : decode cX3_gain 52 = .ok (.iload_n 2, 1) := by decide +kernel
theorem dX3_gain_53 : decode cX3_gain 53 = .ok (.ireturn, 1) := by decide +kernel
theorem dX3_worst_0 : decode cX3_worst 0 = .ok (.iconst 0, 1) := by decide +kernel
theorem dX3_worst_1 : decode cX3_worst 1 = .ok (.istore_n 1, 1) := by decide +kernel
theorem dX3_worst_2 : decode cX3_worst 2 = .ok (.iconst 1, 1) := by decide +kernel
theorem dX3_worst_3 : decode cX3_worst 3 = .ok (.istore_n 2, 1) := by decide +kernel
theorem dX3_worst_4 : decode cX3_worst 4 = .ok (.iload_n 2, 1) := by decide +kernel
theorem dX3_worst_5 : decode cX3_worst 5 = .ok (.aload_n 0, 1) := by decide +kernel
theorem dX3_worst_6 : decode cX3_worst 6 = .ok (.getfield 17, 3) := by decide +kernel
theorem dX3_worst_9 : decode cX3_worst 9 = .ok (.if_icmp .ge 24, 3) := by decide +kernel
theorem dX3_worst_12 : decode cX3_worst 12 = .ok (.aload_n 0, 1) := by decide +kernel
theorem dX3_worst_13 : decode cX3_worst 13 = .ok (.iload_n 2, 1) := by decide +kernel
theorem dX3_worst_14 : decode cX3_worst 14 = .ok (.invokevirtual 92, 3) := by decide +kernel
theorem dX3_worst_17 : decode cX3_worst 17 = .ok (.aload_n 0, 1) := by decide +kernel
theorem dX3_worst_18 : decode cX3_worst 18 = .ok (.iload_n 1, 1) := by decide +kernel
theorem dX3_worst_19 : decode cX3_worst 19 = .ok (.invokevirtual 92, 3) := by decide +kernel
theorem dX3_worst_22 : decode cX3_worst 22 = .ok (.if_icmp .ge 5, 3) := by decide +kernel
theorem dX3_worst_25 : decode cX3_worst 25 = .ok (.iload_n 2, 1) := by decide +kernel
theorem dX3_worst_26 : decode cX3_worst 26 = .ok (.istore_n 1, 1) := by decide +kernel
theorem dX3_worst_27 : decode cX3_worst 27 = .ok (.iinc 2 1, 3) := by decide +kernel
theorem dX3_worst_30 : decode cX3_worst 30 = .ok (.goto (-26), 3) := by decide +kernel
theorem dX3_worst_33 : decode cX3_worst 33 = .ok (.iload_n 1, 1) := by decide +kernel
theorem dX3_worst_34 : decode cX3_worst 34 = .ok (.ireturn, 1) := by decide +kernel
theorem dX3_behind_0 : decode cX3_behind 0 = .ok (.aload_n 0, 1) := by decide +kernel
theorem dX3_behind_1 : decode cX3_behind 1 = .ok (.getfield 20, 3) := by decide +kernel
theorem dX3_behind_4 : decode cX3_behind 4 = .ok (.iload_n 1, 1) := by decide +kernel
theorem dX3_behind_5 : decode cX3_behind 5 = .ok (.iaload, 1) := by decide +kernel
theorem dX3_behind_6 : decode cX3_behind 6 = .ok (.istore_n 3, 1) := by decide +kernel
theorem dX3_behind_7 : decode cX3_behind 7 = .ok (.iconst 0, 1) := by decide +kernel
theorem dX3_behind_8 : decode cX3_behind 8 = .ok (.istore 4, 2) := by decide +kernel
theorem dX3_behind_10 : decode cX3_behind 10 = .ok (.iload 4, 2) := by decide +kernel
theorem dX3_behind_12 : decode cX3_behind 12 = .ok (.aload_n 0, 1) := by decide +kernel
theorem dX3_behind_13 : decode cX3_behind 13 = .ok (.getfield 51, 3) := by decide +kernel
theorem dX3_behind_16 : decode cX3_behind 16 = .ok (.if_icmp .ge 54, 3) := by decide +kernel
theorem dX3_behind_19 : decode cX3_behind 19 = .ok (.aload_n 0, 1) := by decide +kernel
theorem dX3_behind_20 : decode cX3_behind 20 = .ok (.getfield 26, 3) := by decide +kernel
theorem dX3_behind_23 : decode cX3_behind 23 = .ok (.iload 4, 2) := by decide +kernel
theorem dX3_behind_25 : decode cX3_behind 25 = .ok (.iaload, 1) := by decide +kernel
theorem dX3_behind_26 : decode cX3_behind 26 = .ok (.iload_n 1, 1) := by decide +kernel
theorem dX3_behind_27 : decode cX3_behind 27 = .ok (.if_icmp .ne 37, 3) := by decide +kernel
theorem dX3_behind_30 : decode cX3_behind 30 = .ok (.aload_n 0, 1) := by decide +kernel
theorem dX3_behind_31 : decode cX3_behind 31 = .ok (.getfield 41, 3) := by decide +kernel
theorem dX3_behind_34 : decode cX3_behind 34 = .ok (.sipush 1728, 3) := by decide +kernel
theorem dX3_behind_37 : decode cX3_behind 37 = .ok (.iload 4, 2) := by decide +kernel
theorem dX3_behind_39 : decode cX3_behind 39 = .ok (.imul, 1) := by decide +kernel
theorem dX3_behind_40 : decode cX3_behind 40 = .ok (.iload_n 2, 1) := by decide +kernel
theorem dX3_behind_41 : decode cX3_behind 41 = .ok (.iadd, 1) := by decide +kernel
theorem dX3_behind_42 : decode cX3_behind 42 = .ok (.baload, 1) := by decide +kernel
theorem dX3_behind_43 : decode cX3_behind 43 = .ok (.ifCond .eq 21, 3) := by decide +kernel
theorem dX3_behind_46 : decode cX3_behind 46 = .ok (.iload_n 3, 1) := by decide +kernel
theorem dX3_behind_47 : decode cX3_behind 47 = .ok (.aload_n 0, 1) := by decide +kernel
theorem dX3_behind_48 : decode cX3_behind 48 = .ok (.getfield 35, 3) := by decide +kernel
theorem dX3_behind_51 : decode cX3_behind 51 = .ok (.iload 4, 2) := by decide +kernel
theorem dX3_behind_53 : decode cX3_behind 53 = .ok (.iaload, 1) := by decide +kernel
theorem dX3_behind_54 : decode cX3_behind 54 = .ok (.aload_n 0, 1) := by decide +kernel
theorem dX3_behind_55 : decode cX3_behind 55 = .ok (.getfield 38, 3) := by decide +kernel
theorem dX3_behind_58 : decode cX3_behind 58 = .ok (.iload 4, 2) := by decide +kernel
theorem dX3_behind_60 : decode cX3_behind 60 = .ok (.iaload, 1) := by decide +kernel
theorem dX3_behind_61 : decode cX3_behind 61 = .ok (.iadd, 1) := by decide +kernel
theorem dX3_behind_62 : decode cX3_behind 62 = .ok (.iadd, 1) := by decide +kernel
theorem dX3_behind_63 : decode cX3_behind 63 = .ok (.istore_n 3, 1) := by decide +kernel
theorem dX3_behind_64 : decode cX3_behind 64 = .ok (.iinc 4 1, 3) := by decide +kernel
theorem dX3_behind_67 : decode cX3_behind 67 = .ok (.goto (-57), 3) := by decide +kernel
theorem dX3_behind_70 : decode cX3_behind 70 = .ok (.iload_n 3, 1) := by decide +kernel
theorem dX3_behind_71 : decode cX3_behind 71 = .ok (.ireturn, 1) := by decide +kernel
theorem dX3_least_0 : decode cX3_least 0 = .ok (.aload_n 0, 1) := by decide +kernel
theorem dX3_least_1 : decode cX3_least 1 = .ok (.iload_n 1, 1) := by decide +kernel
theorem dX3_least_2 : decode cX3_least 2 = .ok (.iconst 0, 1) := by decide +kernel
theorem dX3_least_3 : decode cX3_least 3 = .ok (.invokevirtual 95, 3) := by decide +kernel
theorem dX3_least_6 : decode cX3_least 6 = .ok (.istore_n 2, 1) := by decide +kernel
theorem dX3_least_7 : decode cX3_least 7 = .ok (.iconst 1, 1) := by decide +kernel
theorem dX3_least_8 : decode cX3_least 8 = .ok (.istore_n 3, 1) := by decide +kernel
theorem dX3_least_9 : decode cX3_least 9 = .ok (.iload_n 3, 1) := by decide +kernel
theorem dX3_least_10 : decode cX3_least 10 = .ok (.aload_n 0, 1) := by decide +kernel
theorem dX3_least_11 : decode cX3_least 11 = .ok (.getfield 17, 3) := by decide +kernel
theorem dX3_least_14 : decode cX3_least 14 = .ok (.if_icmp .ge 20, 3) := by decide +kernel
theorem dX3_least_17 : decode cX3_least 17 = .ok (.iload_n 2, 1) := by decide +kernel
theorem dX3_least_18 : decode cX3_least 18 = .ok (.aload_n 0, 1) := by decide +kernel
theorem dX3_least_19 : decode cX3_least 19 = .ok (.iload_n 1, 1) := by decide +kernel
theorem dX3_least_20 : decode cX3_least 20 = .ok (.iload_n 3, 1) := by decide +kernel
theorem dX3_least_21 : decode cX3_least 21 = .ok (.invokevirtual 95, 3) := by decide +kernel
theorem dX3_least_24 : decode cX3_least 24 = .ok (.invokestatic 69, 3) := by decide +kernel
theorem dX3_least_27 : decode cX3_least 27 = .ok (.istore_n 2, 1) := by decide +kernel
theorem dX3_least_28 : decode cX3_least 28 = .ok (.iinc 3 1, 3) := by decide +kernel
theorem dX3_least_31 : decode cX3_least 31 = .ok (.goto (-22), 3) := by decide +kernel
theorem dX3_least_34 : decode cX3_least 34 = .ok (.iload_n 2, 1) := by decide +kernel
theorem dX3_least_35 : decode cX3_least 35 = .ok (.ireturn, 1) := by decide +kernel
theorem dX3_hedged_0 : decode cX3_hedged 0 = .ok (.iconst 1, 1) := by decide +kernel
theorem dX3_hedged_1 : decode cX3_hedged 1 = .ok (.istore_n 2, 1) := by decide +kernel
theorem dX3_hedged_2 : decode cX3_hedged 2 = .ok (.iload_n 2, 1) := by decide +kernel
theorem dX3_hedged_3 : decode cX3_hedged 3 = .ok (.aload_n 0, 1) := by decide +kernel
theorem dX3_hedged_4 : decode cX3_hedged 4 = .ok (.getfield 17, 3) := by decide +kernel
theorem dX3_hedged_7 : decode cX3_hedged 7 = .ok (.if_icmp .ge 26, 3) := by decide +kernel
theorem dX3_hedged_10 : decode cX3_hedged 10 = .ok (.aload_n 0, 1) := by decide +kernel
theorem dX3_hedged_11 : decode cX3_hedged 11 = .ok (.iload_n 1, 1) := by decide +kernel
theorem dX3_hedged_12 : decode cX3_hedged 12 = .ok (.iload_n 2, 1) := by decide +kernel
theorem dX3_hedged_13 : decode cX3_hedged 13 = .ok (.invokevirtual 95, 3) := by decide +kernel
theorem dX3_hedged_16 : decode cX3_hedged 16 = .ok (.aload_n 0, 1) := by decide +kernel
theorem dX3_hedged_17 : decode cX3_hedged 17 = .ok (.iload_n 1, 1) := by decide +kernel
theorem dX3_hedged_18 : decode cX3_hedged 18 = .ok (.iconst 0, 1) := by decide +kernel
theorem dX3_hedged_19 : decode cX3_hedged 19 = .ok (.invokevirtual 95, 3) := by decide +kernel
theorem dX3_hedged_22 : decode cX3_hedged 22 = .ok (.if_icmp .eq 5, 3) := by decide +kernel
theorem dX3_hedged_25 : decode cX3_hedged 25 = .ok (.iconst 0, 1) := by decide +kernel
theorem dX3_hedged_26 : decode cX3_hedged 26 = .ok (.ireturn, 1) := by decide +kernel
theorem dX3_hedged_27 : decode cX3_hedged 27 = .ok (.iinc 2 1, 3) := by decide +kernel
theorem dX3_hedged_30 : decode cX3_hedged 30 = .ok (.goto (-28), 3) := by decide +kernel
theorem dX3_hedged_33 : decode cX3_hedged 33 = .ok (.iconst 1, 1) := by decide +kernel
theorem dX3_hedged_34 : decode cX3_hedged 34 = .ok (.ireturn, 1) := by decide +kernel
theorem dX3_hedge_0 : decode cX3_hedge 0 = .ok (.iconst 1, 1) := by decide +kernel
theorem dX3_hedge_1 : decode cX3_hedge 1 = .ok (.istore 4, 2) := by decide +kernel
theorem dX3_hedge_3 : decode cX3_hedge 3 = .ok (.iload 4, 2) := by decide +kernel
theorem dX3_hedge_5 : decode cX3_hedge 5 = .ok (.sipush 999, 3) := by decide +kernel
theorem dX3_hedge_8 : decode cX3_hedge 8 = .ok (.if_icmp .gt 25, 3) := by decide +kernel
theorem dX3_hedge_11 : decode cX3_hedge 11 = .ok (.iload 4, 2) := by decide +kernel
theorem dX3_hedge_13 : decode cX3_hedge 13 = .ok (.iload 4, 2) := by decide +kernel
theorem dX3_hedge_15 : decode cX3_hedge 15 = .ok (.iload_n 2, 1) := by decide +kernel
theorem dX3_hedge_16 : decode cX3_hedge 16 = .ok (.imul, 1) := by decide +kernel
theorem dX3_hedge_17 : decode cX3_hedge 17 = .ok (.iload_n 3, 1) := by decide +kernel
theorem dX3_hedge_18 : decode cX3_hedge 18 = .ok (.idiv, 1) := by decide +kernel
theorem dX3_hedge_19 : decode cX3_hedge 19 = .ok (.iadd, 1) := by decide +kernel
theorem dX3_hedge_20 : decode cX3_hedge 20 = .ok (.iload_n 1, 1) := by decide +kernel
theorem dX3_hedge_21 : decode cX3_hedge 21 = .ok (.if_icmp .ne 6, 3) := by decide +kernel
theorem dX3_hedge_24 : decode cX3_hedge 24 = .ok (.iload 4, 2) := by decide +kernel
theorem dX3_hedge_26 : decode cX3_hedge 26 = .ok (.ireturn, 1) := by decide +kernel
theorem dX3_hedge_27 : decode cX3_hedge 27 = .ok (.iinc 4 1, 3) := by decide +kernel
theorem dX3_hedge_30 : decode cX3_hedge 30 = .ok (.goto (-27), 3) := by decide +kernel
theorem dX3_hedge_33 : decode cX3_hedge 33 = .ok (.iconst (-1), 1) := by decide +kernel
theorem dX3_hedge_34 : decode cX3_hedge 34 = .ok (.ireturn, 1) := by decide +kernel
theorem dX3_isDie_0 : decode cX3_isDie 0 = .ok (.iload_n 0, 1) := by decide +kernel
theorem dX3_isDie_1 : decode cX3_isDie 1 = .ok (.iconst 2, 1) := by decide +kernel
theorem dX3_isDie_2 : decode cX3_isDie 2 = .ok (.bipush 12, 2) := by decide +kernel
theorem dX3_isDie_4 : decode cX3_isDie 4 = .ok (.invokestatic 54, 3) := by decide +kernel
theorem dX3_isDie_7 : decode cX3_isDie 7 = .ok (.ireturn, 1) := by decide +kernel
theorem dX3_setDice_0 : decode cX3_setDice 0 = .ok (.aload_n 0, 1) := by decide +kernel
theorem dX3_setDice_1 : decode cX3_setDice 1 = .ok (.iconst 0, 1) := by decide +kernel
theorem dX3_setDice_2 : decode cX3_setDice 2 = .ok (.putfield 48, 3) := by decide +kernel
theorem dX3_setDice_5 : decode cX3_setDice 5 = .ok (.iload_n 1, 1) := by decide +kernel
theorem dX3_setDice_6 : decode cX3_setDice 6 = .ok (.invokestatic 98, 3) := by decide +kernel
theorem dX3_setDice_9 : decode cX3_setDice 9 = .ok (.ifCond .eq 33, 3) := by decide +kernel
theorem dX3_setDice_12 : decode cX3_setDice 12 = .ok (.iload_n 2, 1) := by decide +kernel
theorem dX3_setDice_13 : decode cX3_setDice 13 = .ok (.ifCond .eq 10, 3) := by decide +kernel
theorem dX3_setDice_16 : decode cX3_setDice 16 = .ok (.iload_n 2, 1) := by decide +kernel
theorem dX3_setDice_17 : decode cX3_setDice 17 = .ok (.invokestatic 98, 3) := by decide +kernel
theorem dX3_setDice_20 : decode cX3_setDice 20 = .ok (.ifCond .eq 22, 3) := by decide +kernel
theorem dX3_setDice_23 : decode cX3_setDice 23 = .ok (.iload_n 3, 1) := by decide +kernel
theorem dX3_setDice_24 : decode cX3_setDice 24 = .ok (.ifCond .eq 10, 3) := by decide +kernel
theorem dX3_setDice_27 : decode cX3_setDice 27 = .ok (.iload_n 3, 1) := by decide +kernel
theorem dX3_setDice_28 : decode cX3_setDice 28 = .ok (.invokestatic 98, 3) := by decide +kernel
theorem dX3_setDice_31 : decode cX3_setDice 31 = .ok (.ifCond .eq 11, 3) := by decide +kernel
theorem dX3_setDice_34 : decode cX3_setDice 34 = .ok (.iload_n 2, 1) := by decide +kernel
theorem dX3_setDice_35 : decode cX3_setDice 35 = .ok (.ifCond .ne 13, 3) := by decide +kernel
theorem dX3_setDice_38 : decode cX3_setDice 38 = .ok (.iload_n 3, 1) := by decide +kernel
theorem dX3_setDice_39 : decode cX3_setDice 39 = .ok (.ifCond .eq 9, 3) := by decide +kernel
theorem dX3_setDice_42 : decode cX3_setDice 42 = .ok (.aload_n 0, 1) := by decide +kernel
theorem dX3_setDice_43 : decode cX3_setDice 43 = .ok (.iconst 1, 1) := by decide +kernel
theorem dX3_setDice_44 : decode cX3_setDice 44 = .ok (.invokevirtual 102, 3) := by decide +kernel
theorem dX3_setDice_47 : decode cX3_setDice 47 = .ok (.ireturn, 1) := by decide +kernel
theorem dX3_setDice_48 : decode cX3_setDice 48 = .ok (.aload_n 0, 1) := by decide +kernel
theorem dX3_setDice_49 : decode cX3_setDice 49 = .ok (.getfield 51, 3) := by decide +kernel
theorem dX3_setDice_52 : decode cX3_setDice 52 = .ok (.ifCond .le 9, 3) := by decide +kernel
theorem dX3_setDice_55 : decode cX3_setDice 55 = .ok (.aload_n 0, 1) := by decide +kernel
theorem dX3_setDice_56 : decode cX3_setDice 56 = .ok (.iconst 2, 1) := by decide +kernel
theorem dX3_setDice_57 : decode cX3_setDice 57 = .ok (.invokevirtual 102, 3) := by decide +kernel
theorem dX3_setDice_60 : decode cX3_setDice 60 = .ok (.ireturn, 1) := by decide +kernel
theorem dX3_setDice_61 : decode cX3_setDice 61 = .ok (.aload_n 0, 1) := by decide +kernel
theorem dX3_setDice_62 : decode cX3_setDice 62 = .ok (.getfield 9, 3) := by decide +kernel
theorem dX3_setDice_65 : decode cX3_setDice 65 = .ok (.iconst 0, 1) := by decide +kernel
theorem dX3_setDice_66 : decode cX3_setDice 66 = .ok (.iload_n 1, 1) := by decide +kernel
theorem dX3_setDice_67 : decode cX3_setDice 67 = .ok (.iastore, 1) := by decide +kernel
theorem dX3_setDice_68 : decode cX3_setDice 68 = .ok (.aload_n 0, 1) := by decide +kernel
theorem dX3_setDice_69 : decode cX3_setDice 69 = .ok (.getfield 9, 3) := by decide +kernel
theorem dX3_setDice_72 : decode cX3_setDice 72 = .ok (.iconst 1, 1) := by decide +kernel
theorem dX3_setDice_73 : decode cX3_setDice 73 = .ok (.iconst 1, 1) := by decide +kernel
theorem dX3_setDice_74 : decode cX3_setDice 74 = .ok (.iload_n 2, 1) := by decide +kernel
theorem dX3_setDice_75 : decode cX3_setDice 75 = .ok (.invokestatic 105, 3) := by decide +kernel
theorem dX3_setDice_78 : decode cX3_setDice 78 = .ok (.iastore, 1) := by decide +kernel
theorem dX3_setDice_79 : decode cX3_setDice 79 = .ok (.aload_n 0, 1) := by decide +kernel
theorem dX3_setDice_80 : decode cX3_setDice 80 = .ok (.getfield 9, 3) := by decide +kernel
theorem dX3_setDice_83 : decode cX3_setDice 83 = .ok (.iconst 2, 1) := by decide +kernel
theorem dX3_setDice_84 : decode cX3_setDice 84 = .ok (.iconst 1, 1) := by decide +kernel
theorem dX3_setDice_85 : decode cX3_setDice 85 = .ok (.iload_n 3, 1) := by decide +kernel
theorem dX3_setDice_86 : decode cX3_setDice 86 = .ok (.invokestatic 105, 3) := by decide +kernel
theorem dX3_setDice_89 : decode cX3_setDice 89 = .ok (.iastore, 1) := by decide +kernel
theorem dX3_setDice_90 : decode cX3_setDice 90 = .ok (.aload_n 0, 1) := by decide +kernel
theorem dX3_setDice_91 : decode cX3_setDice 91 = .ok (.iload_n 2, 1) := by decide +kernel
theorem dX3_setDice_92 : decode cX3_setDice 92 = .ok (.ifCond .ne 7, 3) := by decide +kernel
theorem dX3_setDice_95 : decode cX3_setDice 95 = .ok (.iconst 1, 1) := by decide +kernel
theorem dX3_setDice_96 : decode cX3_setDice 96 = .ok (.goto 12, 3) := by decide +kernel
theorem dX3_setDice_99 : decode cX3_setDice 99 = .ok (.iload_n 3, 1) := by decide +kernel
theorem dX3_setDice_100 : decode cX3_setDice 100 = .ok (.ifCond .ne 7, 3) := by decide +kernel
theorem dX3_setDice_103 : decode cX3_setDice 103 = .ok (.iconst 2, 1) := by decide +kernel
theorem dX3_setDice_104 : decode cX3_setDice 104 = .ok (.goto 4, 3) := by decide +kernel
theorem dX3_setDice_107 : decode cX3_setDice 107 = .ok (.iconst 3, 1) := by decide +kernel
theorem dX3_setDice_108 : decode cX3_setDice 108 = .ok (.putfield 13, 3) := by decide +kernel
theorem dX3_setDice_111 : decode cX3_setDice 111 = .ok (.aload_n 0, 1) := by decide +kernel
theorem dX3_setDice_112 : decode cX3_setDice 112 = .ok (.aload_n 0, 1) := by decide +kernel
theorem dX3_setDice_113 : decode cX3_setDice 113 = .ok (.getfield 9, 3) := by decide +kernel
theorem dX3_setDice_116 : decode cX3_setDice 116 = .ok (.iconst 0, 1) := by decide +kernel
theorem dX3_setDice_117 : decode cX3_setDice 117 = .ok (.iaload, 1) := by decide +kernel
theorem dX3_setDice_118 : decode cX3_setDice 118 = .ok (.aload_n 0, 1) := by decide +kernel
theorem dX3_setDice_119 : decode cX3_setDice 119 = .ok (.getfield 9, 3) := by decide +kernel
theorem dX3_setDice_122 : decode cX3_setDice 122 = .ok (.iconst 1, 1) := by decide +kernel
theorem dX3_setDice_123 : decode cX3_setDice 123 = .ok (.iaload, 1) := by decide +kernel
theorem dX3_setDice_124 : decode cX3_setDice 124 = .ok (.imul, 1) := by decide +kernel
theorem dX3_setDice_125 : decode cX3_setDice 125 = .ok (.aload_n 0, 1) := by decide +kernel
theorem dX3_setDice_126 : decode cX3_setDice 126 = .ok (.getfield 9, 3) := by decide +kernel
theorem dX3_setDice_129 : decode cX3_setDice 129 = .ok (.iconst 2, 1) := by decide +kernel
theorem dX3_setDice_130 : decode cX3_setDice 130 = .ok (.iaload, 1) := by decide +kernel
theorem dX3_setDice_131 : decode cX3_setDice 131 = .ok (.imul, 1) := by decide +kernel
theorem dX3_setDice_132 : decode cX3_setDice 132 = .ok (.putfield 17, 3) := by decide +kernel
theorem dX3_setDice_135 : decode cX3_setDice 135 = .ok (.aload_n 0, 1) := by decide +kernel
theorem dX3_setDice_136 : decode cX3_setDice 136 = .ok (.getfield 17, 3) := by decide +kernel
theorem dX3_setDice_139 : decode cX3_setDice 139 = .ok (.ireturn, 1) := by decide +kernel
theorem dX3_dice_0 : decode cX3_dice 0 = .ok (.aload_n 0, 1) := by decide +kernel
theorem dX3_dice_1 : decode cX3_dice 1 = .ok (.aload_n 0, 1) := by decide +kernel
theorem dX3_dice_2 : decode cX3_dice 2 = .ok (.getfield 13, 3) := by decide +kernel
theorem dX3_dice_5 : decode cX3_dice 5 = .ok (.invokevirtual 108, 3) := by decide +kernel
theorem dX3_dice_8 : decode cX3_dice 8 = .ok (.ireturn, 1) := by decide +kernel
theorem dX3_outcomes_0 : decode cX3_outcomes 0 = .ok (.aload_n 0, 1) := by decide +kernel
theorem dX3_outcomes_1 : decode cX3_outcomes 1 = .ok (.aload_n 0, 1) := by decide +kernel
theorem dX3_outcomes_2 : decode cX3_outcomes 2 = .ok (.getfield 17, 3) := by decide +kernel
theorem dX3_outcomes_5 : decode cX3_outcomes 5 = .ok (.invokevirtual 108, 3) := by decide +kernel
theorem dX3_outcomes_8 : decode cX3_outcomes 8 = .ok (.ireturn, 1) := by decide +kernel
theorem dX3_sumOf_0 : decode cX3_sumOf 0 = .ok (.aload_n 0, 1) := by decide +kernel
theorem dX3_sumOf_1 : decode cX3_sumOf 1 = .ok (.iconst 0, 1) := by decide +kernel
theorem dX3_sumOf_2 : decode cX3_sumOf 2 = .ok (.putfield 48, 3) := by decide +kernel
theorem dX3_sumOf_5 : decode cX3_sumOf 5 = .ok (.aload_n 0, 1) := by decide +kernel
theorem dX3_sumOf_6 : decode cX3_sumOf 6 = .ok (.iload_n 1, 1) := by decide +kernel
theorem dX3_sumOf_7 : decode cX3_sumOf 7 = .ok (.invokevirtual 111, 3) := by decide +kernel
theorem dX3_sumOf_10 : decode cX3_sumOf 10 = .ok (.ifCond .eq 11, 3) := by decide +kernel
theorem dX3_sumOf_13 : decode cX3_sumOf 13 = .ok (.aload_n 0, 1) := by decide +kernel
theorem dX3_sumOf_14 : decode cX3_sumOf 14 = .ok (.iload_n 1, 1) := by decide +kernel
theorem dX3_sumOf_15 : decode cX3_sumOf 15 = .ok (.invokevirtual 65, 3) := by decide +kernel
theorem dX3_sumOf_18 : decode cX3_sumOf 18 = .ok (.goto 8, 3) := by decide +kernel
theorem dX3_sumOf_21 : decode cX3_sumOf 21 = .ok (.aload_n 0, 1) := by decide +kernel
theorem dX3_sumOf_22 : decode cX3_sumOf 22 = .ok (.iconst 1, 1) := by decide +kernel
theorem dX3_sumOf_23 : decode cX3_sumOf 23 = .ok (.invokevirtual 102, 3) := by decide +kernel
theorem dX3_sumOf_26 : decode cX3_sumOf 26 = .ok (.ireturn, 1) := by decide +kernel
theorem dX3_ways_0 : decode cX3_ways 0 = .ok (.aload_n 0, 1) := by decide +kernel
theorem dX3_ways_1 : decode cX3_ways 1 = .ok (.iconst 0, 1) := by decide +kernel
theorem dX3_ways_2 : decode cX3_ways 2 = .ok (.putfield 48, 3) := by decide +kernel
theorem dX3_ways_5 : decode cX3_ways 5 = .ok (.iload_n 1, 1) := by decide +kernel
theorem dX3_ways_6 : decode cX3_ways 6 = .ok (.iload_n 2, 1) := by decide +kernel
theorem dX3_ways_7 : decode cX3_ways 7 = .ok (.invokestatic 114, 3) := by decide +kernel
theorem dX3_ways_10 : decode cX3_ways 10 = .ok (.ifCond .eq 12, 3) := by decide +kernel
theorem dX3_ways_13 : decode cX3_ways 13 = .ok (.aload_n 0, 1) := by decide +kernel
theorem dX3_ways_14 : decode cX3_ways 14 = .ok (.iload_n 1, 1) := by decide +kernel
theorem dX3_ways_15 : decode cX3_ways 15 = .ok (.iload_n 2, 1) := by decide +kernel
theorem dX3_ways_16 : decode cX3_ways 16 = .ok (.invokevirtual 74, 3) := by decide +kernel
theorem dX3_ways_19 : decode cX3_ways 19 = .ok (.goto 8, 3) := by decide +kernel
theorem dX3_ways_22 : decode cX3_ways 22 = .ok (.aload_n 0, 1) := by decide +kernel
theorem dX3_ways_23 : decode cX3_ways 23 = .ok (.iconst 1, 1) := by decide +kernel
theorem dX3_ways_24 : decode cX3_ways 24 = .ok (.invokevirtual 102, 3) := by decide +kernel
theorem dX3_ways_27 : decode cX3_ways 27 = .ok (.ireturn, 1) := by decide +kernel
theorem dX3_chance_0 : decode cX3_chance 0 = .ok (.aload_n 0, 1) := by decide +kernel
theorem dX3_chance_1 : decode cX3_chance 1 = .ok (.iconst 0, 1) := by decide +kernel
theorem dX3_chance_2 : decode cX3_chance 2 = .ok (.putfield 48, 3) := by decide +kernel
theorem dX3_chance_5 : decode cX3_chance 5 = .ok (.iload_n 1, 1) := by decide +kernel
theorem dX3_chance_6 : decode cX3_chance 6 = .ok (.iload_n 2, 1) := by decide +kernel
theorem dX3_chance_7 : decode cX3_chance 7 = .ok (.invokestatic 114, 3) := by decide +kernel
theorem dX3_chance_10 : decode cX3_chance 10 = .ok (.ifCond .eq 19, 3) := by decide +kernel
theorem dX3_chance_13 : decode cX3_chance 13 = .ok (.aload_n 0, 1) := by decide +kernel
theorem dX3_chance_14 : decode cX3_chance 14 = .ok (.iload_n 1, 1) := by decide +kernel
theorem dX3_chance_15 : decode cX3_chance 15 = .ok (.iload_n 2, 1) := by decide +kernel
theorem dX3_chance_16 : decode cX3_chance 16 = .ok (.invokevirtual 74, 3) := by decide +kernel
theorem dX3_chance_19 : decode cX3_chance 19 = .ok (.i2d, 1) := by decide +kernel
theorem dX3_chance_20 : decode cX3_chance 20 = .ok (.aload_n 0, 1) := by decide +kernel
theorem dX3_chance_21 : decode cX3_chance 21 = .ok (.getfield 17, 3) := by decide +kernel
theorem dX3_chance_24 : decode cX3_chance 24 = .ok (.i2d, 1) := by decide +kernel
theorem dX3_chance_25 : decode cX3_chance 25 = .ok (.ddiv, 1) := by decide +kernel
theorem dX3_chance_26 : decode cX3_chance 26 = .ok (.goto 9, 3) := by decide +kernel
theorem dX3_chance_29 : decode cX3_chance 29 = .ok (.aload_n 0, 1) := by decide +kernel
theorem dX3_chance_30 : decode cX3_chance 30 = .ok (.iconst 1, 1) := by decide +kernel
theorem dX3_chance_31 : decode cX3_chance 31 = .ok (.invokevirtual 102, 3) := by decide +kernel
theorem dX3_chance_34 : decode cX3_chance 34 = .ok (.i2d, 1) := by decide +kernel
theorem dX3_chance_35 : decode cX3_chance 35 = .ok (.dreturn, 1) := by decide +kernel
theorem dX3_lay_0 : decode cX3_lay 0 = .ok (.aload_n 0, 1) := by decide +kernel
theorem dX3_lay_1 : decode cX3_lay 1 = .ok (.iconst 0, 1) := by decide +kernel
theorem dX3_lay_2 : decode cX3_lay 2 = .ok (.putfield 48, 3) := by decide +kernel
theorem dX3_lay_5 : decode cX3_lay 5 = .ok (.iload_n 1, 1) := by decide +kernel
theorem dX3_lay_6 : decode cX3_lay 6 = .ok (.invokestatic 118, 3) := by decide +kernel
theorem dX3_lay_9 : decode cX3_lay 9 = .ok (.ifCond .ne 9, 3) := by decide +kernel
theorem dX3_lay_12 : decode cX3_lay 12 = .ok (.aload_n 0, 1) := by decide +kernel
theorem dX3_lay_13 : decode cX3_lay 13 = .ok (.iconst 1, 1) := by decide +kernel
theorem dX3_lay_14 : decode cX3_lay 14 = .ok (.invokevirtual 102, 3) := by decide +kernel
theorem dX3_lay_17 : decode cX3_lay 17 = .ok (.ireturn, 1) := by decide +kernel
theorem dX3_lay_18 : decode cX3_lay 18 = .ok (.iload_n 2, 1) := by decide +kernel
theorem dX3_lay_19 : decode cX3_lay 19 = .ok (.iload_n 3, 1) := by decide +kernel
theorem dX3_lay_20 : decode cX3_lay 20 = .ok (.invokestatic 114, 3) := by decide +kernel
theorem dX3_lay_23 : decode cX3_lay 23 = .ok (.ifCond .eq 36, 3) := by decide +kernel
theorem dX3_lay_26 : decode cX3_lay 26 = .ok (.iload 4, 2) := by decide +kernel
theorem dX3_lay_28 : decode cX3_lay 28 = .ok (.iconst 1, 1) := by decide +kernel
theorem dX3_lay_29 : decode cX3_lay 29 = .ok (.bipush 100, 2) := by decide +kernel
theorem dX3_lay_31 : decode cX3_lay 31 = .ok (.invokestatic 54, 3) := by decide +kernel
theorem dX3_lay_34 : decode cX3_lay 34 = .ok (.ifCond .eq 25, 3) := by decide +kernel
theorem dX3_lay_37 : decode cX3_lay 37 = .ok (.iload 5, 2) := by decide +kernel
theorem dX3_lay_39 : decode cX3_lay 39 = .ok (.iconst 1, 1) := by decide +kernel
theorem dX3_lay_40 : decode cX3_lay 40 = .ok (.bipush 20, 2) := by decide +kernel
theorem dX3_lay_42 : decode cX3_lay 42 = .ok (.invokestatic 54, 3) := by decide +kernel
theorem dX3_lay_45 : decode cX3_lay 45 = .ok (.ifCond .eq 14, 3) := by decide +kernel
theorem dX3_lay_48 : decode cX3_lay 48 = .ok (.iload 6, 2) := by decide +kernel
theorem dX3_lay_50 : decode cX3_lay 50 = .ok (.iconst 1, 1) := by decide +kernel
theorem dX3_lay_51 : decode cX3_lay 51 = .ok (.bipush 10, 2) := by decide +kernel
theorem dX3_lay_53 : decode cX3_lay 53 = .ok (.invokestatic 54, 3) := by decide +kernel
theorem dX3_lay_56 : decode cX3_lay 56 = .ok (.ifCond .ne 9, 3) := by decide +kernel
theorem dX3_lay_59 : decode cX3_lay 59 = .ok (.aload_n 0, 1) := by decide +kernel
theorem dX3_lay_60 : decode cX3_lay 60 = .ok (.iconst 2, 1) := by decide +kernel
theorem dX3_lay_61 : decode cX3_lay 61 = .ok (.invokevirtual 102, 3) := by decide +kernel
theorem dX3_lay_64 : decode cX3_lay 64 = .ok (.ireturn, 1) := by decide +kernel
theorem dX3_lay_65 : decode cX3_lay 65 = .ok (.aload_n 0, 1) := by decide +kernel
theorem dX3_lay_66 : decode cX3_lay 66 = .ok (.getfield 51, 3) := by decide +kernel
theorem dX3_lay_69 : decode cX3_lay 69 = .ok (.bipush 12, 2) := by decide +kernel
theorem dX3_lay_71 : decode cX3_lay 71 = .ok (.if_icmp .eq 14, 3) := by decide +kernel
theorem dX3_lay_74 : decode cX3_lay 74 = .ok (.aload_n 0, 1) := by decide +kernel
theorem dX3_lay_75 : decode cX3_lay 75 = .ok (.getfield 20, 3) := by decide +kernel
theorem dX3_lay_78 : decode cX3_lay 78 = .ok (.iload_n 1, 1) := by decide +kernel
theorem dX3_lay_79 : decode cX3_lay 79 = .ok (.iaload, 1) := by decide +kernel
theorem dX3_lay_80 : decode cX3_lay 80 = .ok (.iload 4, 2) := by decide +kernel
theorem dX3_lay_82 : decode cX3_lay 82 = .ok (.if_icmp .ge 9, 3) := by decide +kernel
theorem dX3_lay_85 : decode cX3_lay 85 = .ok (.aload_n 0, 1) := by decide +kernel
theorem dX3_lay_86 : decode cX3_lay 86 = .ok (.iconst 3, 1) := by decide +kernel
theorem dX3_lay_87 : decode cX3_lay 87 = .ok (.invokevirtual 102, 3) := by decide +kernel
theorem dX3_lay_90 : decode cX3_lay 90 = .ok (.ireturn, 1) := by decide +kernel
theorem dX3_lay_91 : decode cX3_lay 91 = .ok (.aload_n 0, 1) := by decide +kernel
theorem dX3_lay_92 : decode cX3_lay 92 = .ok (.getfield 20, 3) := by decide +kernel
theorem dX3_lay_95 : decode cX3_lay 95 = .ok (.iload_n 1, 1) := by decide +kernel
theorem dX3_lay_96 : decode cX3_lay 96 = .ok (.dup2, 1) := by decide +kernel
theorem dX3_lay_97 : decode cX3_lay 97 = .ok (.iaload, 1) := by decide +kernel
theorem dX3_lay_98 : decode cX3_lay 98 = .ok (.iload 4, 2) := by decide +kernel
theorem dX3_lay_100 : decode cX3_lay 100 = .ok (.isub, 1) := by decide +kernel
theorem dX3_lay_101 : decode cX3_lay 101 = .ok (.iastore, 1) := by decide +kernel
theorem dX3_lay_102 : decode cX3_lay 102 = .ok (.aload_n 0, 1) := by decide +kernel
theorem dX3_lay_103 : decode cX3_lay 103 = .ok (.getfield 26, 3) := by decide +kernel
theorem dX3_lay_106 : decode cX3_lay 106 = .ok (.aload_n 0, 1) := by decide +kernel
theorem dX3_lay_107 : decode cX3_lay 107 = .ok (.getfield 51, 3) := by decide +kernel
theorem dX3_lay_110 : decode cX3_lay 110 = .ok (.iload_n 1, 1) := by decide +kernel
theorem dX3_lay_111 : decode cX3_lay 111 = .ok (.iastore, 1) := by decide +kernel
theorem dX3_lay_112 : decode cX3_lay 112 = .ok (.aload_n 0, 1) := by decide +kernel
theorem dX3_lay_113 : decode cX3_lay 113 = .ok (.getfield 29, 3) := by decide +kernel
theorem dX3_lay_116 : decode cX3_lay 116 = .ok (.aload_n 0, 1) := by decide +kernel
theorem dX3_lay_117 : decode cX3_lay 117 = .ok (.getfield 51, 3) := by decide +kernel
theorem dX3_lay_120 : decode cX3_lay 120 = .ok (.iload_n 2, 1) := by decide +kernel
theorem dX3_lay_121 : decode cX3_lay 121 = .ok (.iastore, 1) := by decide +kernel
theorem dX3_lay_122 : decode cX3_lay 122 = .ok (.aload_n 0, 1) := by decide +kernel
theorem dX3_lay_123 : decode cX3_lay 123 = .ok (.getfield 32, 3) := by decide +kernel
theorem dX3_lay_126 : decode cX3_lay 126 = .ok (.aload_n 0, 1) := by decide +kernel
theorem dX3_lay_127 : decode cX3_lay 127 = .ok (.getfield 51, 3) := by decide +kernel
theorem dX3_lay_130 : decode cX3_lay 130 = .ok (.iload_n 3, 1) := by decide +kernel
theorem dX3_lay_131 : decode cX3_lay 131 = .ok (.iastore, 1) := by decide +kernel
theorem dX3_lay_132 : decode cX3_lay 132 = .ok (.aload_n 0, 1) := by decide +kernel
theorem dX3_lay_133 : decode cX3_lay 133 = .ok (.getfield 35, 3) := by decide +kernel
theorem dX3_lay_136 : decode cX3_lay 136 = .ok (.aload_n 0, 1) := by decide +kernel
theorem dX3_lay_137 : decode cX3_lay 137 = .ok (.getfield 51, 3) := by decide +kernel
theorem dX3_lay_140 : decode cX3_lay 140 = .ok (.iload 4, 2) := by decide +kernel
theorem dX3_lay_142 : decode cX3_lay 142 = .ok (.iastore, 1) := by decide +kernel
theorem dX3_lay_143 : decode cX3_lay 143 = .ok (.aload_n 0, 1) := by decide +kernel
theorem dX3_lay_144 : decode cX3_lay 144 = .ok (.getfield 38, 3) := by decide +kernel
theorem dX3_lay_147 : decode cX3_lay 147 = .ok (.aload_n 0, 1) := by decide +kernel
theorem dX3_lay_148 : decode cX3_lay 148 = .ok (.getfield 51, 3) := by decide +kernel
theorem dX3_lay_151 : decode cX3_lay 151 = .ok (.iload 4, 2) := by decide +kernel
theorem dX3_lay_153 : decode cX3_lay 153 = .ok (.iload 5, 2) := by decide +kernel
theorem dX3_lay_155 : decode cX3_lay 155 = .ok (.imul, 1) := by decide +kernel
theorem dX3_lay_156 : decode cX3_lay 156 = .ok (.iload 6, 2) := by decide +kernel
theorem dX3_lay_158 : decode cX3_lay 158 = .ok (.idiv, 1) := by decide +kernel
theorem dX3_lay_159 : decode cX3_lay 159 = .ok (.iastore, 1) := by decide +kernel
theorem dX3_lay_160 : decode cX3_lay 160 = .ok (.iconst 0, 1) := by decide +kernel
theorem dX3_lay_161 : decode cX3_lay 161 = .ok (.istore 7, 2) := by decide +kernel
theorem dX3_lay_163 : decode cX3_lay 163 = .ok (.iload 7, 2) := by decide +kernel
theorem dX3_lay_165 : decode cX3_lay 165 = .ok (.aload_n 0, 1) := by decide +kernel
theorem dX3_lay_166 : decode cX3_lay 166 = .ok (.getfield 17, 3) := by decide +kernel
theorem dX3_lay_169 : decode cX3_lay 169 = .ok (.if_icmp .ge 33, 3) := by decide +kernel
theorem dX3_lay_172 : decode cX3_lay 172 = .ok (.aload_n 0, 1) := by decide +kernel
theorem dX3_lay_173 : decode cX3_lay 173 = .ok (.getfield 41, 3) := by decide +kernel
theorem dX3_lay_176 : decode cX3_lay 176 = .ok (.sipush 1728, 3) := by decide +kernel
theorem dX3_lay_179 : decode cX3_lay 179 = .ok (.aload_n 0, 1) := by decide +kernel
theorem dX3_lay_180 : decode cX3_lay 180 = .ok (.getfield 51, 3) := by decide +kernel
theorem dX3_lay_183 : decode cX3_lay 183 = .ok (.imul, 1) := by decide +kernel
theorem dX3_lay_184 : decode cX3_lay 184 = .ok (.iload 7, 2) := by decide +kernel
theorem dX3_lay_186 : decode cX3_lay 186 = .ok (.iadd, 1) := by decide +kernel
theorem dX3_lay_187 : decode cX3_lay 187 = .ok (.aload_n 0, 1) := by decide +kernel
