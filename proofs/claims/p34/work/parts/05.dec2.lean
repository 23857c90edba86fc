theorem dX2_digest_53 : decode cX2_digest 53 = .ok (.aload_n 0, 1) := by decide +kernel
theorem dX2_digest_54 : decode cX2_digest 54 = .ok (.invokevirtual 184, 3) := by decide +kernel
theorem dX2_digest_57 : decode cX2_digest 57 = .ok (.i2l, 1) := by decide +kernel
theorem dX2_digest_58 : decode cX2_digest 58 = .ok (.invokestatic 171, 3) := by decide +kernel
theorem dX2_digest_61 : decode cX2_digest 61 = .ok (.lstore_n 1, 1) := by decide +kernel
theorem dX2_digest_62 : decode cX2_digest 62 = .ok (.lload_n 1, 1) := by decide +kernel
theorem dX2_digest_63 : decode cX2_digest 63 = .ok (.aload_n 0, 1) := by decide +kernel
theorem dX2_digest_64 : decode cX2_digest 64 = .ok (.invokevirtual 187, 3) := by decide +kernel
theorem dX2_digest_67 : decode cX2_digest 67 = .ok (.i2l, 1) := by decide +kernel
theorem dX2_digest_68 : decode cX2_digest 68 = .ok (.invokestatic 171, 3) := by decide +kernel
theorem dX2_digest_71 : decode cX2_digest 71 = .ok (.lstore_n 1, 1) := by decide +kernel
theorem dX2_digest_72 : decode cX2_digest 72 = .ok (.lload_n 1, 1) := by decide +kernel
theorem dX2_digest_73 : decode cX2_digest 73 = .ok (.aload_n 0, 1) := by decide +kernel
theorem dX2_digest_74 : decode cX2_digest 74 = .ok (.invokevirtual 190, 3) := by decide +kernel
theorem dX2_digest_77 : decode cX2_digest 77 = .ok (.i2l, 1) := by decide +kernel
theorem dX2_digest_78 : decode cX2_digest 78 = .ok (.invokestatic 171, 3) := by decide +kernel
theorem dX2_digest_81 : decode cX2_digest 81 = .ok (.lstore_n 1, 1) := by decide +kernel
theorem dX2_digest_82 : decode cX2_digest 82 = .ok (.lload_n 1, 1) := by decide +kernel
theorem dX2_digest_83 : decode cX2_digest 83 = .ok (.aload_n 0, 1) := by decide +kernel
theorem dX2_digest_84 : decode cX2_digest 84 = .ok (.invokevirtual 193, 3) := by decide +kernel
theorem dX2_digest_87 : decode cX2_digest 87 = .ok (.i2l, 1) := by decide +kernel
theorem dX2_digest_88 : decode cX2_digest 88 = .ok (.invokestatic 171, 3) := by decide +kernel
theorem dX2_digest_91 : decode cX2_digest 91 = .ok (.lstore_n 1, 1) := by decide +kernel
theorem dX2_digest_92 : decode cX2_digest 92 = .ok (.lload_n 1, 1) := by decide +kernel
theorem dX2_digest_93 : decode cX2_digest 93 = .ok (.aload_n 0, 1) := by decide +kernel
theorem dX2_digest_94 : decode cX2_digest 94 = .ok (.invokevirtual 196, 3) := by decide +kernel
theorem dX2_digest_97 : decode cX2_digest 97 = .ok (.i2l, 1) := by decide +kernel
theorem dX2_digest_98 : decode cX2_digest 98 = .ok (.invokestatic 171, 3) := by decide +kernel
theorem dX2_digest_101 : decode cX2_digest 101 = .ok (.lstore_n 1, 1) := by decide +kernel
theorem dX2_digest_102 : decode cX2_digest 102 = .ok (.lload_n 1, 1) := by decide +kernel
theorem dX2_digest_103 : decode cX2_digest 103 = .ok (.aload_n 0, 1) := by decide +kernel
theorem dX2_digest_104 : decode cX2_digest 104 = .ok (.invokevirtual 156, 3) := by decide +kernel
theorem dX2_digest_107 : decode cX2_digest 107 = .ok (.i2l, 1) := by decide +kernel
theorem dX2_digest_108 : decode cX2_digest 108 = .ok (.invokestatic 171, 3) := by decide +kernel
theorem dX2_digest_111 : decode cX2_digest 111 = .ok (.lstore_n 1, 1) := by decide +kernel
theorem dX2_digest_112 : decode cX2_digest 112 = .ok (.aload_n 0, 1) := by decide +kernel
theorem dX2_digest_113 : decode cX2_digest 113 = .ok (.lload_n 1, 1) := by decide +kernel
theorem dX2_digest_114 : decode cX2_digest 114 = .ok (.invokevirtual 199, 3) := by decide +kernel
theorem dX2_digest_117 : decode cX2_digest 117 = .ok (.lstore_n 1, 1) := by decide +kernel
theorem dX2_digest_118 : decode cX2_digest 118 = .ok (.aload_n 0, 1) := by decide +kernel
theorem dX2_digest_119 : decode cX2_digest 119 = .ok (.lload_n 1, 1) := by decide +kernel
theorem dX2_digest_120 : decode cX2_digest 120 = .ok (.invokevirtual 203, 3) := by decide +kernel
theorem dX2_digest_123 : decode cX2_digest 123 = .ok (.lstore_n 1, 1) := by decide +kernel
theorem dX2_digest_124 : decode cX2_digest 124 = .ok (.iconst 0, 1) := by decide +kernel
theorem dX2_digest_125 : decode cX2_digest 125 = .ok (.istore_n 3, 1) := by decide +kernel
theorem dX2_digest_126 : decode cX2_digest 126 = .ok (.iload_n 3, 1) := by decide +kernel
theorem dX2_digest_127 : decode cX2_digest 127 = .ok (.bipush 10, 2) := by decide +kernel
theorem dX2_digest_129 : decode cX2_digest 129 = .ok (.if_icmp .ge 25, 3) := by decide +kernel
theorem dX2_digest_132 : decode cX2_digest 132 = .ok (.lload_n 1, 1) := by decide +kernel
theorem dX2_digest_133 : decode cX2_digest 133 = .ok (.aload_n 0, 1) := by decide +kernel
theorem dX2_digest_134 : decode cX2_digest 134 = .ok (.getfield 12, 3) := by decide +kernel
theorem dX2_digest_137 : decode cX2_digest 137 = .ok (.iload_n 3, 1) := by decide +kernel
theorem dX2_digest_138 : decode cX2_digest 138 = .ok (.bipush 7, 2) := by decide +kernel
theorem dX2_digest_140 : decode cX2_digest 140 = .ok (.invokevirtual 75, 3) := by decide +kernel
theorem dX2_digest_143 : decode cX2_digest 143 = .ok (.i2l, 1) := by decide +kernel
theorem dX2_digest_144 : decode cX2_digest 144 = .ok (.invokestatic 171, 3) := by decide +kernel
theorem dX2_digest_147 : decode cX2_digest 147 = .ok (.lstore_n 1, 1) := by decide +kernel
theorem dX2_digest_148 : decode cX2_digest 148 = .ok (.iinc 3 1, 3) := by decide +kernel
theorem dX2_digest_151 : decode cX2_digest 151 = .ok (.goto (-25), 3) := by decide +kernel
theorem dX2_digest_154 : decode cX2_digest 154 = .ok (.lload_n 1, 1) := by decide +kernel
theorem dX2_digest_155 : decode cX2_digest 155 = .ok (.lreturn, 1) := by decide +kernel
theorem dX2_digestOfWagers_0 : decode cX2_digestOfWagers 0 = .ok (.lload_n 1, 1) := by decide +kernel
theorem dX2_digestOfWagers_1 : decode cX2_digestOfWagers 1 = .ok (.lstore_n 3, 1) := by decide +kernel
theorem dX2_digestOfWagers_2 : decode cX2_digestOfWagers 2 = .ok (.iconst 0, 1) := by decide +kernel
theorem dX2_digestOfWagers_3 : decode cX2_digestOfWagers 3 = .ok (.istore 5, 2) := by decide +kernel
theorem dX2_digestOfWagers_5 : decode cX2_digestOfWagers 5 = .ok (.iload 5, 2) := by decide +kernel
theorem dX2_digestOfWagers_7 : decode cX2_digestOfWagers 7 = .ok (.aload_n 0, 1) := by decide +kernel
theorem dX2_digestOfWagers_8 : decode cX2_digestOfWagers 8 = .ok (.getfield 19, 3) := by decide +kernel
theorem dX2_digestOfWagers_11 : decode cX2_digestOfWagers 11 = .ok (.invokevirtual 90, 3) := by decide +kernel
theorem dX2_digestOfWagers_14 : decode cX2_digestOfWagers 14 = .ok (.if_icmp .ge 69, 3) := by decide +kernel
theorem dX2_digestOfWagers_17 : decode cX2_digestOfWagers 17 = .ok (.lload_n 3, 1) := by decide +kernel
theorem dX2_digestOfWagers_18 : decode cX2_digestOfWagers 18 = .ok (.aload_n 0, 1) := by decide +kernel
theorem dX2_digestOfWagers_19 : decode cX2_digestOfWagers 19 = .ok (.iload 5, 2) := by decide +kernel
theorem dX2_digestOfWagers_21 : decode cX2_digestOfWagers 21 = .ok (.invokevirtual 206, 3) := by decide +kernel
theorem dX2_digestOfWagers_24 : decode cX2_digestOfWagers 24 = .ok (.i2l, 1) := by decide +kernel
theorem dX2_digestOfWagers_25 : decode cX2_digestOfWagers 25 = .ok (.invokestatic 171, 3) := by decide +kernel
theorem dX2_digestOfWagers_28 : decode cX2_digestOfWagers 28 = .ok (.lstore_n 3, 1) := by decide +kernel
theorem dX2_digestOfWagers_29 : decode cX2_digestOfWagers 29 = .ok (.lload_n 3, 1) := by decide +kernel
theorem dX2_digestOfWagers_30 : decode cX2_digestOfWagers 30 = .ok (.aload_n 0, 1) := by decide +kernel
theorem dX2_digestOfWagers_31 : decode cX2_digestOfWagers 31 = .ok (.iload 5, 2) := by decide +kernel
theorem dX2_digestOfWagers_33 : decode cX2_digestOfWagers 33 = .ok (.invokevirtual 209, 3) := by decide +kernel
theorem dX2_digestOfWagers_36 : decode cX2_digestOfWagers 36 = .ok (.i2l, 1) := by decide +kernel
theorem dX2_digestOfWagers_37 : decode cX2_digestOfWagers 37 = .ok (.invokestatic 171, 3) := by decide +kernel
theorem dX2_digestOfWagers_40 : decode cX2_digestOfWagers 40 = .ok (.lstore_n 3, 1) := by decide +kernel
theorem dX2_digestOfWagers_41 : decode cX2_digestOfWagers 41 = .ok (.lload_n 3, 1) := by decide +kernel
theorem dX2_digestOfWagers_42 : decode cX2_digestOfWagers 42 = .ok (.aload_n 0, 1) := by decide +kernel
theorem dX2_digestOfWagers_43 : decode cX2_digestOfWagers 43 = .ok (.iload 5, 2) := by decide +kernel
theorem dX2_digestOfWagers_45 : decode cX2_digestOfWagers 45 = .ok (.invokevirtual 212, 3) := by decide +kernel
theorem dX2_digestOfWagers_48 : decode cX2_digestOfWagers 48 = .ok (.i2l, 1) := by decide +kernel
theorem dX2_digestOfWagers_49 : decode cX2_digestOfWagers 49 = .ok (.invokestatic 171, 3) := by decide +kernel
theorem dX2_digestOfWagers_52 : decode cX2_digestOfWagers 52 = .ok (.lstore_n 3, 1) := by decide +kernel
theorem dX2_digestOfWagers_53 : decode cX2_digestOfWagers 53 = .ok (.lload_n 3, 1) := by decide +kernel
theorem dX2_digestOfWagers_54 : decode cX2_digestOfWagers 54 = .ok (.aload_n 0, 1) := by decide +kernel
theorem dX2_digestOfWagers_55 : decode cX2_digestOfWagers 55 = .ok (.iload 5, 2) := by decide +kernel
theorem dX2_digestOfWagers_57 : decode cX2_digestOfWagers 57 = .ok (.invokevirtual 215, 3) := by decide +kernel
theorem dX2_digestOfWagers_60 : decode cX2_digestOfWagers 60 = .ok (.i2l, 1) := by decide +kernel
theorem dX2_digestOfWagers_61 : decode cX2_digestOfWagers 61 = .ok (.invokestatic 171, 3) := by decide +kernel
theorem dX2_digestOfWagers_64 : decode cX2_digestOfWagers 64 = .ok (.lstore_n 3, 1) := by decide +kernel
theorem dX2_digestOfWagers_65 : decode cX2_digestOfWagers 65 = .ok (.lload_n 3, 1) := by decide +kernel
theorem dX2_digestOfWagers_66 : decode cX2_digestOfWagers 66 = .ok (.aload_n 0, 1) := by decide +kernel
theorem dX2_digestOfWagers_67 : decode cX2_digestOfWagers 67 = .ok (.iload 5, 2) := by decide +kernel
theorem dX2_digestOfWagers_69 : decode cX2_digestOfWagers 69 = .ok (.invokevirtual 218, 3) := by decide +kernel
theorem dX2_digestOfWagers_72 : decode cX2_digestOfWagers 72 = .ok (.i2l, 1) := by decide +kernel
theorem dX2_digestOfWagers_73 : decode cX2_digestOfWagers 73 = .ok (.invokestatic 171, 3) := by decide +kernel
theorem dX2_digestOfWagers_76 : decode cX2_digestOfWagers 76 = .ok (.lstore_n 3, 1) := by decide +kernel
theorem dX2_digestOfWagers_77 : decode cX2_digestOfWagers 77 = .ok (.iinc 5 1, 3) := by decide +kernel
theorem dX2_digestOfWagers_80 : decode cX2_digestOfWagers 80 = .ok (.goto (-75), 3) := by decide +kernel
theorem dX2_digestOfWagers_83 : decode cX2_digestOfWagers 83 = .ok (.lload_n 3, 1) := by decide +kernel
theorem dX2_digestOfWagers_84 : decode cX2_digestOfWagers 84 = .ok (.lreturn, 1) := by decide +kernel
theorem dX2_digestOfPatrons_0 : decode cX2_digestOfPatrons 0 = .ok (.lload_n 1, 1) := by decide +kernel
theorem dX2_digestOfPatrons_1 : decode cX2_digestOfPatrons 1 = .ok (.lstore_n 3, 1) := by decide +kernel
theorem dX2_digestOfPatrons_2 : decode cX2_digestOfPatrons 2 = .ok (.iconst 0, 1) := by decide +kernel
theorem dX2_digestOfPatrons_3 : decode cX2_digestOfPatrons 3 = .ok (.istore 5, 2) := by decide +kernel
theorem dX2_digestOfPatrons_5 : decode cX2_digestOfPatrons 5 = .ok (.iload 5, 2) := by decide +kernel
theorem dX2_digestOfPatrons_7 : decode cX2_digestOfPatrons 7 = .ok (.bipush 6, 2) := by decide +kernel
theorem dX2_digestOfPatrons_9 : decode cX2_digestOfPatrons 9 = .ok (.if_icmp .ge 52, 3) := by decide +kernel
theorem dX2_digestOfPatrons_12 : decode cX2_digestOfPatrons 12 = .ok (.lload_n 3, 1) := by decide +kernel
theorem dX2_digestOfPatrons_13 : decode cX2_digestOfPatrons 13 = .ok (.aload_n 0, 1) := by decide +kernel
theorem dX2_digestOfPatrons_14 : decode cX2_digestOfPatrons 14 = .ok (.iload 5, 2) := by decide +kernel
theorem dX2_digestOfPatrons_16 : decode cX2_digestOfPatrons 16 = .ok (.invokevirtual 221, 3) := by decide +kernel
theorem dX2_digestOfPatrons_19 : decode cX2_digestOfPatrons 19 = .ok (.i2l, 1) := by decide +kernel
theorem dX2_digestOfPatrons_20 : decode cX2_digestOfPatrons 20 = .ok (.invokestatic 171, 3) := by decide +kernel
theorem dX2_digestOfPatrons_23 : decode cX2_digestOfPatrons 23 = .ok (.lstore_n 3, 1) := by decide +kernel
theorem dX2_digestOfPatrons_24 : decode cX2_digestOfPatrons 24 = .ok (.lload_n 3, 1) := by decide +kernel
theorem dX2_digestOfPatrons_25 : decode cX2_digestOfPatrons 25 = .ok (.aload_n 0, 1) := by decide +kernel
theorem dX2_digestOfPatrons_26 : decode cX2_digestOfPatrons 26 = .ok (.iload 5, 2) := by decide +kernel
theorem dX2_digestOfPatrons_28 : decode cX2_digestOfPatrons 28 = .ok (.invokevirtual 224, 3) := by decide +kernel
theorem dX2_digestOfPatrons_31 : decode cX2_digestOfPatrons 31 = .ok (.i2l, 1) := by decide +kernel
theorem dX2_digestOfPatrons_32 : decode cX2_digestOfPatrons 32 = .ok (.invokestatic 171, 3) := by decide +kernel
theorem dX2_digestOfPatrons_35 : decode cX2_digestOfPatrons 35 = .ok (.lstore_n 3, 1) := by decide +kernel
theorem dX2_digestOfPatrons_36 : decode cX2_digestOfPatrons 36 = .ok (.lload_n 3, 1) := by decide +kernel
theorem dX2_digestOfPatrons_37 : decode cX2_digestOfPatrons 37 = .ok (.aload_n 0, 1) := by decide +kernel
theorem dX2_digestOfPatrons_38 : decode cX2_digestOfPatrons 38 = .ok (.iload 5, 2) := by decide +kernel
theorem dX2_digestOfPatrons_40 : decode cX2_digestOfPatrons 40 = .ok (.invokevirtual 227, 3) := by decide +kernel
theorem dX2_digestOfPatrons_43 : decode cX2_digestOfPatrons 43 = .ok (.ifCond .eq 7, 3) := by decide +kernel
theorem dX2_digestOfPatrons_46 : decode cX2_digestOfPatrons 46 = .ok (.lconst 1, 1) := by decide +kernel
theorem dX2_digestOfPatrons_47 : decode cX2_digestOfPatrons 47 = .ok (.goto 4, 3) := by decide +kernel
theorem dX2_digestOfPatrons_50 : decode cX2_digestOfPatrons 50 = .ok (.lconst 0, 1) := by decide +kernel
theorem dX2_digestOfPatrons_51 : decode cX2_digestOfPatrons 51 = .ok (.invokestatic 171, 3) := by decide +kernel
theorem dX2_digestOfPatrons_54 : decode cX2_digestOfPatrons 54 = .ok (.lstore_n 3, 1) := by decide +kernel
theorem dX2_digestOfPatrons_55 : decode cX2_digestOfPatrons 55 = .ok (.iinc 5 1, 3) := by decide +kernel
theorem dX2_digestOfPatrons_58 : decode cX2_digestOfPatrons 58 = .ok (.goto (-53), 3) := by decide +kernel
theorem dX2_digestOfPatrons_61 : decode cX2_digestOfPatrons 61 = .ok (.lload_n 3, 1) := by decide +kernel
theorem dX2_digestOfPatrons_62 : decode cX2_digestOfPatrons 62 = .ok (.lreturn, 1) := by decide +kernel
theorem dX2_digested_0 : decode cX2_digested 0 = .ok (.lload_n 0, 1) := by decide +kernel
theorem dX2_digested_1 : decode cX2_digested 1 = .ok (.ldc2_w 230, 3) := by decide +kernel
theorem dX2_digested_4 : decode cX2_digested 4 = .ok (.lmul, 1) := by decide +kernel
theorem dX2_digested_5 : decode cX2_digested 5 = .ok (.lload_n 2, 1) := by decide +kernel
theorem dX2_digested_6 : decode cX2_digested 6 = .ok (.ladd, 1) := by decide +kernel
theorem dX2_digested_7 : decode cX2_digested 7 = .ok (.lreturn, 1) := by decide +kernel
theorem dX2_gainOfAll_0 : decode cX2_gainOfAll 0 = .ok (.iconst 0, 1) := by decide +kernel
theorem dX2_gainOfAll_1 : decode cX2_gainOfAll 1 = .ok (.istore_n 2, 1) := by decide +kernel
theorem dX2_gainOfAll_2 : decode cX2_gainOfAll 2 = .ok (.iconst 0, 1) := by decide +kernel
theorem dX2_gainOfAll_3 : decode cX2_gainOfAll 3 = .ok (.istore_n 3, 1) := by decide +kernel
theorem dX2_gainOfAll_4 : decode cX2_gainOfAll 4 = .ok (.iload_n 3, 1) := by decide +kernel
theorem dX2_gainOfAll_5 : decode cX2_gainOfAll 5 = .ok (.aload_n 0, 1) := by decide +kernel
theorem dX2_gainOfAll_6 : decode cX2_gainOfAll 6 = .ok (.getfield 19, 3) := by decide +kernel
theorem dX2_gainOfAll_9 : decode cX2_gainOfAll 9 = .ok (.invokevirtual 90, 3) := by decide +kernel
theorem dX2_gainOfAll_12 : decode cX2_gainOfAll 12 = .ok (.if_icmp .ge 60, 3) := by decide +kernel
theorem dX2_gainOfAll_15 : decode cX2_gainOfAll 15 = .ok (.aload_n 0, 1) := by decide +kernel
theorem dX2_gainOfAll_16 : decode cX2_gainOfAll 16 = .ok (.getfield 19, 3) := by decide +kernel
theorem dX2_gainOfAll_19 : decode cX2_gainOfAll 19 = .ok (.iload_n 3, 1) := by decide +kernel
theorem dX2_gainOfAll_20 : decode cX2_gainOfAll 20 = .ok (.invokevirtual 137, 3) := by decide +kernel
theorem dX2_gainOfAll_23 : decode cX2_gainOfAll 23 = .ok (.checkcast 98, 3) := by decide +kernel
theorem dX2_gainOfAll_26 : decode cX2_gainOfAll 26 = .ok (.astore 4, 2) := by decide +kernel
theorem dX2_gainOfAll_28 : decode cX2_gainOfAll 28 = .ok (.iload_n 2, 1) := by decide +kernel
theorem dX2_gainOfAll_29 : decode cX2_gainOfAll 29 = .ok (.aload_n 0, 1) := by decide +kernel
theorem dX2_gainOfAll_30 : decode cX2_gainOfAll 30 = .ok (.getfield 12, 3) := by decide +kernel
theorem dX2_gainOfAll_33 : decode cX2_gainOfAll 33 = .ok (.aload 4, 2) := by decide +kernel
theorem dX2_gainOfAll_35 : decode cX2_gainOfAll 35 = .ok (.getfield 232, 3) := by decide +kernel
theorem dX2_gainOfAll_38 : decode cX2_gainOfAll 38 = .ok (.aload 4, 2) := by decide +kernel
theorem dX2_gainOfAll_40 : decode cX2_gainOfAll 40 = .ok (.getfield 235, 3) := by decide +kernel
theorem dX2_gainOfAll_43 : decode cX2_gainOfAll 43 = .ok (.iload_n 1, 1) := by decide +kernel
theorem dX2_gainOfAll_44 : decode cX2_gainOfAll 44 = .ok (.invokevirtual 238, 3) := by decide +kernel
theorem dX2_gainOfAll_47 : decode cX2_gainOfAll 47 = .ok (.ifCond .eq 12, 3) := by decide +kernel
theorem dX2_gainOfAll_50 : decode cX2_gainOfAll 50 = .ok (.aload 4, 2) := by decide +kernel
theorem dX2_gainOfAll_52 : decode cX2_gainOfAll 52 = .ok (.getfield 140, 3) := by decide +kernel
theorem dX2_gainOfAll_55 : decode cX2_gainOfAll 55 = .ok (.ineg, 1) := by decide +kernel
theorem dX2_gainOfAll_56 : decode cX2_gainOfAll 56 = .ok (.goto 8, 3) := by decide +kernel
theorem dX2_gainOfAll_59 : decode cX2_gainOfAll 59 = .ok (.aload 4, 2) := by decide +kernel
theorem dX2_gainOfAll_61 : decode cX2_gainOfAll 61 = .ok (.getfield 121, 3) := by decide +kernel
theorem dX2_gainOfAll_64 : decode cX2_gainOfAll 64 = .ok (.iadd, 1) := by decide +kernel
theorem dX2_gainOfAll_65 : decode cX2_gainOfAll 65 = .ok (.istore_n 2, 1) := by decide +kernel
theorem dX2_gainOfAll_66 : decode cX2_gainOfAll 66 = .ok (.iinc 3 1, 3) := by decide +kernel
theorem dX2_gainOfAll_69 : decode cX2_gainOfAll 69 = .ok (.goto (-65), 3) := by decide +kernel
theorem dX2_gainOfAll_72 : decode cX2_gainOfAll 72 = .ok (.iload_n 2, 1) := by decide +kernel
theorem dX2_gainOfAll_73 : decode cX2_gainOfAll 73 = .ok (.ireturn, 1) := by decide +kernel
theorem dX2_purseBehind_0 : decode cX2_purseBehind 0 = .ok (.aload_n 0, 1) := by decide +kernel
theorem dX2_purseBehind_1 : decode cX2_purseBehind 1 = .ok (.getfield 23, 3) := by decide +kernel
theorem dX2_purseBehind_4 : decode cX2_purseBehind 4 = .ok (.iload_n 1, 1) := by decide +kernel
theorem dX2_purseBehind_5 : decode cX2_purseBehind 5 = .ok (.iaload, 1) := by decide +kernel
theorem dX2_purseBehind_6 : decode cX2_purseBehind 6 = .ok (.istore_n 3, 1) := by decide +kernel
theorem dX2_purseBehind_7 : decode cX2_purseBehind 7 = .ok (.iconst 0, 1) := by decide +kernel
theorem dX2_purseBehind_8 : decode cX2_purseBehind 8 = .ok (.istore 4, 2) := by decide +kernel
theorem dX2_purseBehind_10 : decode cX2_purseBehind 10 = .ok (.iload 4, 2) := by decide +kernel
theorem dX2_purseBehind_12 : decode cX2_purseBehind 12 = .ok (.aload_n 0, 1) := by decide +kernel
theorem dX2_purseBehind_13 : decode cX2_purseBehind 13 = .ok (.getfield 19, 3) := by decide +kernel
theorem dX2_purseBehind_16 : decode cX2_purseBehind 16 = .ok (.invokevirtual 90, 3) := by decide +kernel
theorem dX2_purseBehind_19 : decode cX2_purseBehind 19 = .ok (.if_icmp .ge 67, 3) := by decide +kernel
theorem dX2_purseBehind_22 : decode cX2_purseBehind 22 = .ok (.aload_n 0, 1) := by decide +kernel
theorem dX2_purseBehind_23 : decode cX2_purseBehind 23 = .ok (.getfield 19, 3) := by decide +kernel
theorem dX2_purseBehind_26 : decode cX2_purseBehind 26 = .ok (.iload 4, 2) := by decide +kernel
theorem dX2_purseBehind_28 : decode cX2_purseBehind 28 = .ok (.invokevirtual 137, 3) := by decide +kernel
theorem dX2_purseBehind_31 : decode cX2_purseBehind 31 = .ok (.checkcast 98, 3) := by decide +kernel
theorem dX2_purseBehind_34 : decode cX2_purseBehind 34 = .ok (.astore 5, 2) := by decide +kernel
theorem dX2_purseBehind_36 : decode cX2_purseBehind 36 = .ok (.aload 5, 2) := by decide +kernel
theorem dX2_purseBehind_38 : decode cX2_purseBehind 38 = .ok (.getfield 118, 3) := by decide +kernel
theorem dX2_purseBehind_41 : decode cX2_purseBehind 41 = .ok (.iload_n 1, 1) := by decide +kernel
theorem dX2_purseBehind_42 : decode cX2_purseBehind 42 = .ok (.if_icmp .ne 38, 3) := by decide +kernel
theorem dX2_purseBehind_45 : decode cX2_purseBehind 45 = .ok (.aload_n 0, 1) := by decide +kernel
theorem dX2_purseBehind_46 : decode cX2_purseBehind 46 = .ok (.getfield 12, 3) := by decide +kernel
theorem dX2_purseBehind_49 : decode cX2_purseBehind 49 = .ok (.aload 5, 2) := by decide +kernel
theorem dX2_purseBehind_51 : decode cX2_purseBehind 51 = .ok (.getfield 232, 3) := by decide +kernel
theorem dX2_purseBehind_54 : decode cX2_purseBehind 54 = .ok (.aload 5, 2) := by decide +kernel
theorem dX2_purseBehind_56 : decode cX2_purseBehind 56 = .ok (.getfield 235, 3) := by decide +kernel
theorem dX2_purseBehind_59 : decode cX2_purseBehind 59 = .ok (.iload_n 2, 1) := by decide +kernel
theorem dX2_purseBehind_60 : decode cX2_purseBehind 60 = .ok (.invokevirtual 238, 3) := by decide +kernel
theorem dX2_purseBehind_63 : decode cX2_purseBehind 63 = .ok (.ifCond .eq 17, 3) := by decide +kernel
theorem dX2_purseBehind_66 : decode cX2_purseBehind 66 = .ok (.iload_n 3, 1) := by decide +kernel
theorem dX2_purseBehind_67 : decode cX2_purseBehind 67 = .ok (.aload 5, 2) := by decide +kernel
theorem dX2_purseBehind_69 : decode cX2_purseBehind 69 = .ok (.getfield 121, 3) := by decide +kernel
theorem dX2_purseBehind_72 : decode cX2_purseBehind 72 = .ok (.aload 5, 2) := by decide +kernel
theorem dX2_purseBehind_74 : decode cX2_purseBehind 74 = .ok (.getfield 140, 3) := by decide +kernel
theorem dX2_purseBehind_77 : decode cX2_purseBehind 77 = .ok (.iadd, 1) := by decide +kernel
theorem dX2_purseBehind_78 : decode cX2_purseBehind 78 = .ok (.iadd, 1) := by decide +kernel
theorem dX2_purseBehind_79 : decode cX2_purseBehind 79 = .ok (.istore_n 3, 1) := by decide +kernel
theorem dX2_purseBehind_80 : decode cX2_purseBehind 80 = .ok (.iinc 4 1, 3) := by decide +kernel
theorem dX2_purseBehind_83 : decode cX2_purseBehind 83 = .ok (.goto (-73), 3) := by decide +kernel
theorem dX2_purseBehind_86 : decode cX2_purseBehind 86 = .ok (.iload_n 3, 1) := by decide +kernel
theorem dX2_purseBehind_87 : decode cX2_purseBehind 87 = .ok (.ireturn, 1) := by decide +kernel
theorem dX2_gainOverOutcomes_0 : decode cX2_gainOverOutcomes 0 = .ok (.aload_n 0, 1) := by decide +kernel
theorem dX2_gainOverOutcomes_1 : decode cX2_gainOverOutcomes 1 = .ok (.getfield 12, 3) := by decide +kernel
theorem dX2_gainOverOutcomes_4 : decode cX2_gainOverOutcomes 4 = .ok (.aload_n 1, 1) := by decide +kernel
theorem dX2_gainOverOutcomes_5 : decode cX2_gainOverOutcomes 5 = .ok (.getfield 121, 3) := by decide +kernel
theorem dX2_gainOverOutcomes_8 : decode cX2_gainOverOutcomes 8 = .ok (.aload_n 1, 1) := by decide +kernel
theorem dX2_gainOverOutcomes_9 : decode cX2_gainOverOutcomes 9 = .ok (.getfield 140, 3) := by decide +kernel
theorem dX2_gainOverOutcomes_12 : decode cX2_gainOverOutcomes 12 = .ok (.aload_n 1, 1) := by decide +kernel
theorem dX2_gainOverOutcomes_13 : decode cX2_gainOverOutcomes 13 = .ok (.getfield 242, 3) := by decide +kernel
theorem dX2_gainOverOutcomes_16 : decode cX2_gainOverOutcomes 16 = .ok (.invokevirtual 164, 3) := by decide +kernel
theorem dX2_gainOverOutcomes_19 : decode cX2_gainOverOutcomes 19 = .ok (.ireturn, 1) := by decide +kernel
theorem dX2_gainOfAllOverOutcomes_0 : decode cX2_gainOfAllOverOutcomes 0 = .ok (.iconst 0, 1) := by decide +kernel
theorem dX2_gainOfAllOverOutcomes_1 : decode cX2_gainOfAllOverOutcomes 1 = .ok (.istore_n 1, 1) := by decide +kernel
theorem dX2_gainOfAllOverOutcomes_2 : decode cX2_gainOfAllOverOutcomes 2 = .ok (.iconst 0, 1) := by decide +kernel
theorem dX2_gainOfAllOverOutcomes_3 : decode cX2_gainOfAllOverOutcomes 3 = .ok (.istore_n 2, 1) := by decide +kernel
theorem dX2_gainOfAllOverOutcomes_4 : decode cX2_gainOfAllOverOutcomes 4 = .ok (.iload_n 2, 1) := by decide +kernel
theorem dX2_gainOfAllOverOutcomes_5 : decode cX2_gainOfAllOverOutcomes 5 = .ok (.aload_n 0, 1) := by decide +kernel
theorem dX2_gainOfAllOverOutcomes_6 : decode cX2_gainOfAllOverOutcomes 6 = .ok (.getfield 19, 3) := by decide +kernel
theorem dX2_gainOfAllOverOutcomes_9 : decode cX2_gainOfAllOverOutcomes 9 = .ok (.invokevirtual 90, 3) := by decide +kernel
theorem dX2_gainOfAllOverOutcomes_12 : decode cX2_gainOfAllOverOutcomes 12 = .ok (.if_icmp .ge 27, 3) := by decide +kernel
theorem dX2_gainOfAllOverOutcomes_15 : decode cX2_gainOfAllOverOutcomes 15 = .ok (.iload_n 1, 1) := by decide +kernel
theorem dX2_gainOfAllOverOutcomes_16 : decode cX2_gainOfAllOverOutcomes 16 = .ok (.aload_n 0, 1) := by decide +kernel
theorem dX2_gainOfAllOverOutcomes_17 : decode cX2_gainOfAllOverOutcomes 17 = .ok (.aload_n 0, 1) := by decide +kernel
theorem dX2_gainOfAllOverOutcomes_18 : decode cX2_gainOfAllOverOutcomes 18 = .ok (.getfield 19, 3) := by decide +kernel
theorem dX2_gainOfAllOverOutcomes_21 : decode cX2_gainOfAllOverOutcomes 21 = .ok (.iload_n 2, 1) := by decide +kernel
theorem dX2_gainOfAllOverOutcomes_22 : decode cX2_gainOfAllOverOutcomes 22 = .ok (.invokevirtual 137, 3) := by decide +kernel
theorem dX2_gainOfAllOverOutcomes_25 : decode cX2_gainOfAllOverOutcomes 25 = .ok (.checkcast 98, 3) := by decide +kernel
theorem dX2_gainOfAllOverOutcomes_28 : decode cX2_gainOfAllOverOutcomes 28 = .ok (.invokevirtual 143, 3) := by decide +kernel
theorem dX2_gainOfAllOverOutcomes_31 : decode cX2_gainOfAllOverOutcomes 31 = .ok (.iadd, 1) := by decide +kernel
theorem dX2_gainOfAllOverOutcomes_32 : decode cX2_gainOfAllOverOutcomes 32 = .ok (.istore_n 1, 1) := by decide +kernel
theorem dX2_gainOfAllOverOutcomes_33 : decode cX2_gainOfAllOverOutcomes 33 = .ok (.iinc 2 1, 3) := by decide +kernel
theorem dX2_gainOfAllOverOutcomes_36 : decode cX2_gainOfAllOverOutcomes 36 = .ok (.goto (-32), 3) := by decide +kernel
theorem dX2_gainOfAllOverOutcomes_39 : decode cX2_gainOfAllOverOutcomes 39 = .ok (.iload_n 1, 1) := by decide +kernel
theorem dX2_gainOfAllOverOutcomes_40 : decode cX2_gainOfAllOverOutcomes 40 = .ok (.ireturn, 1) := by decide +kernel
theorem dX2_lowestTop_0 : decode cX2_lowestTop 0 = .ok (.iload_n 1, 1) := by decide +kernel
theorem dX2_lowestTop_1 : decode cX2_lowestTop 1 = .ok (.iload_n 1, 1) := by decide +kernel
theorem dX2_lowestTop_2 : decode cX2_lowestTop 2 = .ok (.aload_n 0, 1) := by decide +kernel
theorem dX2_lowestTop_3 : decode cX2_lowestTop 3 = .ok (.getfield 12, 3) := by decide +kernel
theorem dX2_lowestTop_6 : decode cX2_lowestTop 6 = .ok (.getfield 58, 3) := by decide +kernel
theorem dX2_lowestTop_9 : decode cX2_lowestTop 9 = .ok (.invokestatic 245, 3) := by decide +kernel
theorem dX2_lowestTop_12 : decode cX2_lowestTop 12 = .ok (.idiv, 1) := by decide +kernel
theorem dX2_lowestTop_13 : decode cX2_lowestTop 13 = .ok (.ireturn, 1) := by decide +kernel
theorem dX2_lowestBottom_0 : decode cX2_lowestBottom 0 = .ok (.aload_n 0, 1) := by decide +kernel
theorem dX2_lowestBottom_1 : decode cX2_lowestBottom 1 = .ok (.getfield 12, 3) := by decide +kernel
theorem dX2_lowestBottom_4 : decode cX2_lowestBottom 4 = .ok (.getfield 58, 3) := by decide +kernel
theorem dX2_lowestBottom_7 : decode cX2_lowestBottom 7 = .ok (.iload_n 1, 1) := by decide +kernel
theorem dX2_lowestBottom_8 : decode cX2_lowestBottom 8 = .ok (.aload_n 0, 1) := by decide +kernel
theorem dX2_lowestBottom_9 : decode cX2_lowestBottom 9 = .ok (.getfield 12, 3) := by decide +kernel
theorem dX2_lowestBottom_12 : decode cX2_lowestBottom 12 = .ok (.getfield 58, 3) := by decide +kernel
theorem dX2_lowestBottom_15 : decode cX2_lowestBottom 15 = .ok (.invokestatic 245, 3) := by decide +kernel
theorem dX2_lowestBottom_18 : decode cX2_lowestBottom 18 = .ok (.idiv, 1) := by decide +kernel
theorem dX2_lowestBottom_19 : decode cX2_lowestBottom 19 = .ok (.ireturn, 1) := by decide +kernel
theorem dX2_commonDivisor_0 : decode cX2_commonDivisor 0 = .ok (.iload_n 0, 1) := by decide +kernel
theorem dX2_commonDivisor_1 : decode cX2_commonDivisor 1 = .ok (.invokestatic 248, 3) := by decide +kernel
theorem dX2_commonDivisor_4 : decode cX2_commonDivisor 4 = .ok (.istore_n 2, 1) := by decide +kernel
theorem dX2_commonDivisor_5 : decode cX2_commonDivisor 5 = .ok (.iload_n 1, 1) := by decide +kernel
theorem dX2_commonDivisor_6 : decode cX2_commonDivisor 6 = .ok (.istore_n 3, 1) := by decide +kernel
theorem dX2_commonDivisor_7 : decode cX2_commonDivisor 7 = .ok (.iconst 0, 1) := by decide +kernel
theorem dX2_commonDivisor_8 : decode cX2_commonDivisor 8 = .ok (.istore 4, 2) := by decide +kernel
theorem dX2_commonDivisor_10 : decode cX2_commonDivisor 10 = .ok (.iload_n 3, 1) := by decide +kernel
theorem dX2_commonDivisor_11 : decode cX2_commonDivisor 11 = .ok (.ifCond .eq 26, 3) := by decide +kernel
theorem dX2_commonDivisor_14 : decode cX2_commonDivisor 14 = .ok (.iload 4, 2) := by decide +kernel
theorem dX2_commonDivisor_16 : decode cX2_commonDivisor 16 = .ok (.bipush 64, 2) := by decide +kernel
theorem dX2_commonDivisor_18 : decode cX2_commonDivisor 18 = .ok (.if_icmp .ge 19, 3) := by decide +kernel
theorem dX2_commonDivisor_21 : decode cX2_commonDivisor 21 = .ok (.iload_n 2, 1) := by decide +kernel
theorem dX2_commonDivisor_22 : decode cX2_commonDivisor 22 = .ok (.iload_n 3, 1) := by decide +kernel
theorem dX2_commonDivisor_23 : decode cX2_commonDivisor 23 = .ok (.irem, 1) := by decide +kernel
theorem dX2_commonDivisor_24 : decode cX2_commonDivisor 24 = .ok (.istore 5, 2) := by decide +kernel
theorem dX2_commonDivisor_26 : decode cX2_commonDivisor 26 = .ok (.iload_n 3, 1) := by decide +kernel
theorem dX2_commonDivisor_27 : decode cX2_commonDivisor 27 = .ok (.istore_n 2, 1) := by decide +kernel
theorem dX2_commonDivisor_28 : decode cX2_commonDivisor 28 = .ok (.iload 5, 2) := by decide +kernel
theorem dX2_commonDivisor_30 : decode cX2_commonDivisor 30 = .ok (.istore_n 3, 1) := by decide +kernel
theorem dX2_commonDivisor_31 : decode cX2_commonDivisor 31 = .ok (.iinc 4 1, 3) := by decide +kernel
theorem dX2_commonDivisor_34 : decode cX2_commonDivisor 34 = .ok (.goto (-24), 3) := by decide +kernel
theorem dX2_commonDivisor_37 : decode cX2_commonDivisor 37 = .ok (.iload_n 2, 1) := by decide +kernel
theorem dX2_commonDivisor_38 : decode cX2_commonDivisor 38 = .ok (.iconst 1, 1) := by decide +kernel
theorem dX2_commonDivisor_39 : decode cX2_commonDivisor 39 = .ok (.invokestatic 251, 3) := by decide +kernel
theorem dX2_commonDivisor_42 : decode cX2_commonDivisor 42 = .ok (.ireturn, 1) := by decide +kernel
theorem dX2_broughtBy_0 : decode cX2_broughtBy 0 = .ok (.iload_n 2, 1) := by decide +kernel
theorem dX2_broughtBy_1 : decode cX2_broughtBy 1 = .ok (.iconst 1, 1) := by decide +kernel
theorem dX2_broughtBy_2 : decode cX2_broughtBy 2 = .ok (.if_icmp .ge 7, 3) := by decide +kernel
theorem dX2_broughtBy_5 : decode cX2_broughtBy 5 = .ok (.iconst 0, 1) := by decide +kernel
theorem dX2_broughtBy_6 : decode cX2_broughtBy 6 = .ok (.goto 8, 3) := by decide +kernel
theorem dX2_broughtBy_9 : decode cX2_broughtBy 9 = .ok (.iload_n 0, 1) := by decide +kernel
theorem dX2_broughtBy_10 : decode cX2_broughtBy 10 = .ok (.iload_n 1, 1) := by decide +kernel
theorem dX2_broughtBy_11 : decode cX2_broughtBy 11 = .ok (.imul, 1) := by decide +kernel
theorem dX2_broughtBy_12 : decode cX2_broughtBy 12 = .ok (.iload_n 2, 1) := by decide +kernel
theorem dX2_broughtBy_13 : decode cX2_broughtBy 13 = .ok (.idiv, 1) := by decide +kernel
theorem dX2_broughtBy_14 : decode cX2_broughtBy 14 = .ok (.ireturn, 1) := by decide +kernel
theorem dX2_isDie_0 : decode cX2_isDie 0 = .ok (.iload_n 0, 1) := by decide +kernel
theorem dX2_isDie_1 : decode cX2_isDie 1 = .ok (.iconst 2, 1) := by decide +kernel
theorem dX2_isDie_2 : decode cX2_isDie 2 = .ok (.if_icmp .lt 13, 3) := by decide +kernel
theorem dX2_isDie_5 : decode cX2_isDie 5 = .ok (.iload_n 0, 1) := by decide +kernel
theorem dX2_isDie_6 : decode cX2_isDie 6 = .ok (.bipush 12, 2) := by decide +kernel
theorem dX2_isDie_8 : decode cX2_isDie 8 = .ok (.if_icmp .gt 7, 3) := by decide +kernel
theorem dX2_isDie_11 : decode cX2_isDie 11 = .ok (.iconst 1, 1) := by decide +kernel
theorem dX2_isDie_12 : decode cX2_isDie 12 = .ok (.goto 4, 3) := by decide +kernel
theorem dX2_isDie_15 : decode cX2_isDie 15 = .ok (.iconst 0, 1) := by decide +kernel
theorem dX2_isDie_16 : decode cX2_isDie 16 = .ok (.ireturn, 1) := by decide +kernel
theorem dX2_isDieOrNone_0 : decode cX2_isDieOrNone 0 = .ok (.iload_n 0, 1) := by decide +kernel
theorem dX2_isDieOrNone_1 : decode cX2_isDieOrNone 1 = .ok (.ifCond .eq 10, 3) := by decide +kernel
theorem dX2_isDieOrNone_4 : decode cX2_isDieOrNone 4 = .ok (.iload_n 0, 1) := by decide +kernel
theorem dX2_isDieOrNone_5 : decode cX2_isDieOrNone 5 = .ok (.invokestatic 31, 3) := by decide +kernel
theorem dX2_isDieOrNone_8 : decode cX2_isDieOrNone 8 = .ok (.ifCond .eq 7, 3) := by decide +kernel
theorem dX2_isDieOrNone_11 : decode cX2_isDieOrNone 11 = .ok (.iconst 1, 1) := by decide +kernel
theorem dX2_isDieOrNone_12 : decode cX2_isDieOrNone 12 = .ok (.goto 4, 3) := by decide +kernel
theorem dX2_isDieOrNone_15 : decode cX2_isDieOrNone 15 = .ok (.iconst 0, 1) := by decide +kernel
theorem dX2_isDieOrNone_16 : decode cX2_isDieOrNone 16 = .ok (.ireturn, 1) := by decide +kernel
theorem dX2_checkOutcome_0 : decode cX2_checkOutcome 0 = .ok (.iload_n 1, 1) := by decide +kernel
theorem dX2_checkOutcome_1 : decode cX2_checkOutcome 1 = .ok (.ifCond .lt 14, 3) := by decide +kernel
theorem dX2_checkOutcome_4 : decode cX2_checkOutcome 4 = .ok (.iload_n 1, 1) := by decide +kernel
theorem dX2_checkOutcome_5 : decode cX2_checkOutcome 5 = .ok (.aload_n 0, 1) := by decide +kernel
theorem dX2_checkOutcome_6 : decode cX2_checkOutcome 6 = .ok (.getfield 12, 3) := by decide +kernel
theorem dX2_checkOutcome_9 : decode cX2_checkOutcome 9 = .ok (.getfield 58, 3) := by decide +kernel
theorem dX2_checkOutcome_12 : decode cX2_checkOutcome 12 = .ok (.if_icmp .lt 14, 3) := by decide +kernel
theorem dX2_checkOutcome_15 : decode cX2_checkOutcome 15 = .ok (.new 254, 3) := by decide +kernel
theorem dX2_checkOutcome_18 : decode cX2_checkOutcome 18 = .ok (.dup, 1) := by decide +kernel
theorem dX2_checkOutcome_19 : decode cX2_checkOutcome 19 = .ok (.ldc_w 256, 3) := by decide +kernel
theorem dX2_checkOutcome_22 : decode cX2_checkOutcome 22 = .ok (.invokespecial 258, 3) := by decide +kernel
theorem dX2_checkOutcome_25 : decode cX2_checkOutcome 25 = .ok (.athrow, 1) := by decide +kernel
theorem dX2_checkOutcome_26 : decode cX2_checkOutcome 26 = .ok (.return_, 1) := by decide +kernel
theorem dX2_checkWager_0 : decode cX2_checkWager 0 = .ok (.iload_n 1, 1) := by decide +kernel
theorem dX2_checkWager_1 : decode cX2_checkWager 1 = .ok (.ifCond .lt 14, 3) := by decide +kernel
theorem dX2_checkWager_4 : decode cX2_checkWager 4 = .ok (.iload_n 1, 1) := by decide +kernel
theorem dX2_checkWager_5 : decode cX2_checkWager 5 = .ok (.aload_n 0, 1) := by decide +kernel
theorem dX2_checkWager_6 : decode cX2_checkWager 6 = .ok (.getfield 19, 3) := by decide +kernel
theorem dX2_checkWager_9 : decode cX2_checkWager 9 = .ok (.invokevirtual 90, 3) := by decide +kernel
theorem dX2_checkWager_12 : decode cX2_checkWager 12 = .ok (.if_icmp .lt 14, 3) := by decide +kernel
theorem dX2_checkWager_15 : decode cX2_checkWager 15 = .ok (.new 254, 3) := by decide +kernel
theorem dX2_checkWager_18 : decode cX2_checkWager 18 = .ok (.dup, 1) := by decide +kernel
theorem dX2_checkWager_19 : decode cX2_checkWager 19 = .ok (.ldc_w 259, 3) := by decide +kernel
theorem dX2_checkWager_22 : decode cX2_checkWager 22 = .ok (.invokespecial 258, 3) := by decide +kernel
theorem dX2_checkWager_25 : decode cX2_checkWager 25 = .ok (.athrow, 1) := by decide +kernel
theorem dX2_checkWager_26 : decode cX2_checkWager 26 = .ok (.return_, 1) := by decide +kernel
theorem dX2_checkPatron_0 : decode cX2_checkPatron 0 = .ok (.iload_n 0, 1) := by decide +kernel
theorem dX2_checkPatron_1 : decode cX2_checkPatron 1 = .ok (.ifCond .lt 9, 3) := by decide +kernel
theorem dX2_checkPatron_4 : decode cX2_checkPatron 4 = .ok (.iload_n 0, 1) := by decide +kernel
theorem dX2_checkPatron_5 : decode cX2_checkPatron 5 = .ok (.bipush 6, 2) := by decide +kernel
theorem dX2_checkPatron_7 : decode cX2_checkPatron 7 = .ok (.if_icmp .lt 14, 3) := by decide +kernel
theorem dX2_checkPatron_10 : decode cX2_checkPatron 10 = .ok (.new 254, 3) := by decide +kernel
theorem dX2_checkPatron_13 : decode cX2_checkPatron 13 = .ok (.dup, 1) := by decide +kernel
theorem dX2_checkPatron_14 : decode cX2_checkPatron 14 = .ok (.ldc_w 261, 3) := by decide +kernel
theorem dX2_checkPatron_17 : decode cX2_checkPatron 17 = .ok (.invokespecial 258, 3) := by decide +kernel
theorem dX2_checkPatron_20 : decode cX2_checkPatron 20 = .ok (.athrow, 1) := by decide +kernel
theorem dX2_checkPatron_21 : decode cX2_checkPatron 21 = .ok (.return_, 1) := by decide +kernel
theorem dX2_checkEvent_0 : decode cX2_checkEvent 0 = .ok (.iload_n 0, 1) := by decide +kernel
theorem dX2_checkEvent_1 : decode cX2_checkEvent 1 = .ok (.ifCond .lt 19, 3) := by decide +kernel
theorem dX2_checkEvent_4 : decode cX2_checkEvent 4 = .ok (.iload_n 0, 1) := by decide +kernel
theorem dX2_checkEvent_5 : decode cX2_checkEvent 5 = .ok (.bipush 10, 2) := by decide +kernel
theorem dX2_checkEvent_7 : decode cX2_checkEvent 7 = .ok (.if_icmp .ge 13, 3) := by decide +kernel
theorem dX2_checkEvent_10 : decode cX2_checkEvent 10 = .ok (.iload_n 1, 1) := by decide +kernel
theorem dX2_checkEvent_11 : decode cX2_checkEvent 11 = .ok (.ifCond .lt 9, 3) := by decide +kernel
theorem dX2_checkEvent_14 : decode cX2_checkEvent 14 = .ok (.iload_n 1, 1) := by decide +kernel
theorem dX2_checkEvent_15 : decode cX2_checkEvent 15 = .ok (.bipush 36, 2) := by decide +kernel
theorem dX2_checkEvent_17 : decode cX2_checkEvent 17 = .ok (.if_icmp .le 14, 3) := by decide +kernel
theorem dX2_checkEvent_20 : decode cX2_checkEvent 20 = .ok (.new 38, 3) := by decide +kernel
theorem dX2_checkEvent_23 : decode cX2_checkEvent 23 = .ok (.dup, 1) := by decide +kernel
theorem dX2_checkEvent_24 : decode cX2_checkEvent 24 = .ok (.ldc_w 263, 3) := by decide +kernel
theorem dX2_checkEvent_27 : decode cX2_checkEvent 27 = .ok (.invokespecial 42, 3) := by decide +kernel
theorem dX2_checkEvent_30 : decode cX2_checkEvent 30 = .ok (.athrow, 1) := by decide +kernel
theorem dX2_checkEvent_31 : decode cX2_checkEvent 31 = .ok (.return_, 1) := by decide +kernel
theorem dX2_checkWin_0 : decode cX2_checkWin 0 = .ok (.iload_n 0, 1) := by decide +kernel
theorem dX2_checkWin_1 : decode cX2_checkWin 1 = .ok (.iconst 1, 1) := by decide +kernel
theorem dX2_checkWin_2 : decode cX2_checkWin 2 = .ok (.if_icmp .lt 9, 3) := by decide +kernel
theorem dX2_checkWin_5 : decode cX2_checkWin 5 = .ok (.iload_n 0, 1) := by decide +kernel
theorem dX2_checkWin_6 : decode cX2_checkWin 6 = .ok (.bipush 20, 2) := by decide +kernel
theorem dX2_checkWin_8 : decode cX2_checkWin 8 = .ok (.if_icmp .le 14, 3) := by decide +kernel
theorem dX2_checkWin_11 : decode cX2_checkWin 11 = .ok (.new 38, 3) := by decide +kernel
theorem dX2_checkWin_14 : decode cX2_checkWin 14 = .ok (.dup, 1) := by decide +kernel
theorem dX2_checkWin_15 : decode cX2_checkWin 15 = .ok (.ldc_w 265, 3) := by decide +kernel
theorem dX2_checkWin_18 : decode cX2_checkWin 18 = .ok (.invokespecial 42, 3) := by decide +kernel
theorem dX2_checkWin_21 : decode cX2_checkWin 21 = .ok (.athrow, 1) := by decide +kernel
theorem dX2_checkWin_22 : decode cX2_checkWin 22 = .ok (.return_, 1) := by decide +kernel
theorem dX2_checkBase_0 : decode cX2_checkBase 0 = .ok (.iload_n 0, 1) := by decide +kernel
theorem dX2_checkBase_1 : decode cX2_checkBase 1 = .ok (.iconst 1, 1) := by decide +kernel
theorem dX2_checkBase_2 : decode cX2_checkBase 2 = .ok (.if_icmp .lt 9, 3) := by decide +kernel
theorem dX2_checkBase_5 : decode cX2_checkBase 5 = .ok (.iload_n 0, 1) := by decide +kernel
theorem dX2_checkBase_6 : decode cX2_checkBase 6 = .ok (.bipush 10, 2) := by decide +kernel
theorem dX2_checkBase_8 : decode cX2_checkBase 8 = .ok (.if_icmp .le 14, 3) := by decide +kernel
theorem dX2_checkBase_11 : decode cX2_checkBase 11 = .ok (.new 38, 3) := by decide +kernel
theorem dX2_checkBase_14 : decode cX2_checkBase 14 = .ok (.dup, 1) := by decide +kernel
theorem dX2_checkBase_15 : decode cX2_checkBase 15 = .ok (.ldc_w 267, 3) := by decide +kernel
theorem dX2_checkBase_18 : decode cX2_checkBase 18 = .ok (.invokespecial 42, 3) := by decide +kernel
theorem dX2_checkBase_21 : decode cX2_checkBase 21 = .ok (.athrow, 1) := by decide +kernel
theorem dX2_checkBase_22 : decode cX2_checkBase 22 = .ok (.return_, 1) := by decide +kernel
theorem dX3_init_0 : decode cX3_init 0 = .ok (.aload_n 0, 1) := by decide +kernel
theorem dX3_init_1 : decode cX3_init 1 = .ok (.invokespecial 1, 3) := by decide +kernel
theorem dX3_init_4 : decode cX3_init 4 = .ok (.aload_n 0, 1) := by decide +kernel
theorem dX3_init_5 : decode cX3_init 5 = .ok (.iconst 2, 1) := by decide +kernel
theorem dX3_init_6 : decode cX3_init 6 = .ok (.newarray .int, 2) := by decide +kernel
theorem dX3_init_8 : decode cX3_init 8 = .ok (.dup, 1) := by decide +kernel
theorem dX3_init_9 : decode cX3_init 9 = .ok (.iconst 0, 1) := by decide +kernel
theorem dX3_init_10 : decode cX3_init 10 = .ok (.bipush 6, 2) := by decide +kernel
theorem dX3_init_12 : decode cX3_init 12 = .ok (.iastore, 1) := by decide +kernel
theorem dX3_init_13 : decode cX3_init 13 = .ok (.dup, 1) := by decide +kernel
theorem dX3_init_14 : decode cX3_init 14 = .ok (.iconst 1, 1) := by decide +kernel
theorem dX3_init_15 : decode cX3_init 15 = .ok (.bipush 6, 2) := by decide +kernel
theorem dX3_init_17 : decode cX3_init 17 = .ok (.iastore, 1) := by decide +kernel
theorem dX3_init_18 : decode cX3_init 18 = .ok (.putfield 7, 3) := by decide +kernel
theorem dX3_init_21 : decode cX3_init 21 = .ok (.aload_n 0, 1) := by decide +kernel
theorem dX3_init_22 : decode cX3_init 22 = .ok (.aload_n 0, 1) := by decide +kernel
theorem dX3_init_23 : decode cX3_init 23 = .ok (.getfield 7, 3) := by decide +kernel
theorem dX3_init_26 : decode cX3_init 26 = .ok (.invokestatic 13, 3) := by decide +kernel
theorem dX3_init_29 : decode cX3_init 29 = .ok (.putfield 17, 3) := by decide +kernel
theorem dX3_init_32 : decode cX3_init 32 = .ok (.aload_n 0, 1) := by decide +kernel
theorem dX3_init_33 : decode cX3_init 33 = .ok (.bipush 6, 2) := by decide +kernel
theorem dX3_init_35 : decode cX3_init 35 = .ok (.newarray .int, 2) := by decide +kernel
theorem dX3_init_37 : decode cX3_init 37 = .ok (.dup, 1) := by decide +kernel
theorem dX3_init_38 : decode cX3_init 38 = .ok (.iconst 0, 1) := by decide +kernel
theorem dX3_init_39 : decode cX3_init 39 = .ok (.bipush 100, 2) := by decide +kernel
theorem dX3_init_41 : decode cX3_init 41 = .ok (.iastore, 1) := by decide +kernel
theorem dX3_init_42 : decode cX3_init 42 = .ok (.dup, 1) := by decide +kernel
theorem dX3_init_43 : decode cX3_init 43 = .ok (.iconst 1, 1) := by decide +kernel
theorem dX3_init_44 : decode cX3_init 44 = .ok (.bipush 100, 2) := by decide +kernel
theorem dX3_init_46 : decode cX3_init 46 = .ok (.iastore, 1) := by decide +kernel
theorem dX3_init_47 : decode cX3_init 47 = .ok (.dup, 1) := by decide +kernel
theorem dX3_init_48 : decode cX3_init 48 = .ok (.iconst 2, 1) := by decide +kernel
theorem dX3_init_49 : decode cX3_init 49 = .ok (.bipush 100, 2) := by decide +kernel
theorem dX3_init_51 : decode cX3_init 51 = .ok (.iastore, 1) := by decide +kernel
theorem dX3_init_52 : decode cX3_init 52 = .ok (.dup, 1) := by decide +kernel
theorem dX3_init_53 : decode cX3_init 53 = .ok (.iconst 3, 1) := by decide +kernel
theorem dX3_init_54 : decode cX3_init 54 = .ok (.bipush 100, 2) := by decide +kernel
theorem dX3_init_56 : decode cX3_init 56 = .ok (.iastore, 1) := by decide +kernel
theorem dX3_init_57 : decode cX3_init 57 = .ok (.dup, 1) := by decide +kernel
theorem dX3_init_58 : decode cX3_init 58 = .ok (.iconst 4, 1) := by decide +kernel
theorem dX3_init_59 : decode cX3_init 59 = .ok (.bipush 100, 2) := by decide +kernel
theorem dX3_init_61 : decode cX3_init 61 = .ok (.iastore, 1) := by decide +kernel
theorem dX3_init_62 : decode cX3_init 62 = .ok (.dup, 1) := by decide +kernel
theorem dX3_init_63 : decode cX3_init 63 = .ok (.iconst 5, 1) := by decide +kernel
theorem dX3_init_64 : decode cX3_init 64 = .ok (.bipush 100, 2) := by decide +kernel
theorem dX3_init_66 : decode cX3_init 66 = .ok (.iastore, 1) := by decide +kernel
theorem dX3_init_67 : decode cX3_init 67 = .ok (.putfield 21, 3) := by decide +kernel
theorem dX3_init_70 : decode cX3_init 70 = .ok (.aload_n 0, 1) := by decide +kernel
theorem dX3_init_71 : decode cX3_init 71 = .ok (.sipush 500, 3) := by decide +kernel
theorem dX3_init_74 : decode cX3_init 74 = .ok (.putfield 24, 3) := by decide +kernel
theorem dX3_init_77 : decode cX3_init 77 = .ok (.aload_n 0, 1) := by decide +kernel
theorem dX3_init_78 : decode cX3_init 78 = .ok (.iconst 0, 1) := by decide +kernel
theorem dX3_init_79 : decode cX3_init 79 = .ok (.anewarray 28, 3) := by decide +kernel
theorem dX3_init_82 : decode cX3_init 82 = .ok (.putfield 29, 3) := by decide +kernel
theorem dX3_init_85 : decode cX3_init 85 = .ok (.return_, 1) := by decide +kernel
theorem dX3_with_0 : decode cX3_with 0 = .ok (.aload_n 0, 1) := by decide +kernel
theorem dX3_with_1 : decode cX3_with 1 = .ok (.arraylength, 1) := by decide +kernel
theorem dX3_with_2 : decode cX3_with 2 = .ok (.iconst 1, 1) := by decide +kernel
theorem dX3_with_3 : decode cX3_with 3 = .ok (.iadd, 1) := by decide +kernel
theorem dX3_with_4 : decode cX3_with 4 = .ok (.anewarray 28, 3) := by decide +kernel
theorem dX3_with_7 : decode cX3_with 7 = .ok (.astore_n 2, 1) := by decide +kernel
theorem dX3_with_8 : decode cX3_with 8 = .ok (.iconst 0, 1) := by decide +kernel
theorem dX3_with_9 : decode cX3_with 9 = .ok (.istore_n 3, 1) := by decide +kernel
theorem dX3_with_10 : decode cX3_with 10 = .ok (.iload_n 3, 1) := by decide +kernel
theorem dX3_with_11 : decode cX3_with 11 = .ok (.aload_n 0, 1) := by decide +kernel
theorem dX3_with_12 : decode cX3_with 12 = .ok (.arraylength, 1) := by decide +kernel
theorem dX3_with_13 : decode cX3_with 13 = .ok (.if_icmp .ge 15, 3) := by decide +kernel
theorem dX3_with_16 : decode cX3_with 16 = .ok (.aload_n 2, 1) := by decide +kernel
theorem dX3_with_17 : decode cX3_with 17 = .ok (.iload_n 3, 1) := by decide +kernel
theorem dX3_with_18 : decode cX3_with 18 = .ok (.aload_n 0, 1) := by decide +kernel
theorem dX3_with_19 : decode cX3_with 19 = .ok (.iload_n 3, 1) := by decide +kernel
theorem dX3_with_20 : decode cX3_with 20 = .ok (.aaload, 1) := by decide +kernel
theorem dX3_with_21 : decode cX3_with 21 = .ok (.aastore, 1) := by decide +kernel
theorem dX3_with_22 : decode cX3_with 22 = .ok (.iinc 3 1, 3) := by decide +kernel
theorem dX3_with_25 : decode cX3_with 25 = .ok (.goto (-15), 3) := by decide +kernel
theorem dX3_with_28 : decode cX3_with 28 = .ok (.aload_n 2, 1) := by decide +kernel
theorem dX3_with_29 : decode cX3_with 29 = .ok (.aload_n 0, 1) := by decide +kernel
theorem dX3_with_30 : decode cX3_with 30 = .ok (.arraylength, 1) := by decide +kernel
theorem dX3_with_31 : decode cX3_with 31 = .ok (.aload_n 1, 1) := by decide +kernel
theorem dX3_with_32 : decode cX3_with 32 = .ok (.aastore, 1) := by decide +kernel
theorem dX3_with_33 : decode cX3_with 33 = .ok (.aload_n 2, 1) := by decide +kernel
theorem dX3_with_34 : decode cX3_with 34 = .ok (.areturn, 1) := by decide +kernel
theorem dX3_all_0 : decode cX3_all 0 = .ok (.iconst 1, 1) := by decide +kernel
theorem dX3_all_1 : decode cX3_all 1 = .ok (.istore_n 1, 1) := by decide +kernel
theorem dX3_all_2 : decode cX3_all 2 = .ok (.aload_n 0, 1) := by decide +kernel
theorem dX3_all_3 : decode cX3_all 3 = .ok (.astore_n 2, 1) := by decide +kernel
theorem dX3_all_4 : decode cX3_all 4 = .ok (.aload_n 2, 1) := by decide +kernel
theorem dX3_all_5 : decode cX3_all 5 = .ok (.arraylength, 1) := by decide +kernel
theorem dX3_all_6 : decode cX3_all 6 = .ok (.istore_n 3, 1) := by decide +kernel
theorem dX3_all_7 : decode cX3_all 7 = .ok (.iconst 0, 1) := by decide +kernel
theorem dX3_all_8 : decode cX3_all 8 = .ok (.istore 4, 2) := by decide +kernel
theorem dX3_all_10 : decode cX3_all 10 = .ok (.iload 4, 2) := by decide +kernel
theorem dX3_all_12 : decode cX3_all 12 = .ok (.iload_n 3, 1) := by decide +kernel
theorem dX3_all_13 : decode cX3_all 13 = .ok (.if_icmp .ge 20, 3) := by decide +kernel
theorem dX3_all_16 : decode cX3_all 16 = .ok (.aload_n 2, 1) := by decide +kernel
theorem dX3_all_17 : decode cX3_all 17 = .ok (.iload 4, 2) := by decide +kernel
theorem dX3_all_19 : decode cX3_all 19 = .ok (.iaload, 1) := by decide +kernel
theorem dX3_all_20 : decode cX3_all 20 = .ok (.istore 5, 2) := by decide +kernel
theorem dX3_all_22 : decode cX3_all 22 = .ok (.iload_n 1, 1) := by decide +kernel
theorem dX3_all_23 : decode cX3_all 23 = .ok (.iload 5, 2) := by decide +kernel
theorem dX3_all_25 : decode cX3_all 25 = .ok (.imul, 1) := by decide +kernel
theorem dX3_all_26 : decode cX3_all 26 = .ok (.istore_n 1, 1) := by decide +kernel
theorem dX3_all_27 : decode cX3_all 27 = .ok (.iinc 4 1, 3) := by decide +kernel
theorem dX3_all_30 : decode cX3_all 30 = .ok (.goto (-20), 3) := by decide +kernel
theorem dX3_all_33 : decode cX3_all 33 = .ok (.iload_n 1, 1) := by decide +kernel
theorem dX3_all_34 : decode cX3_all 34 = .ok (.aload_n 0, 1) := by decide +kernel
theorem dX3_all_35 : decode cX3_all 35 = .ok (.arraylength, 1) := by decide +kernel
theorem dX3_all_36 : decode cX3_all 36 = .ok (.multianewarray 32 2, 4) := by decide +kernel
theorem dX3_all_40 : decode cX3_all 40 = .ok (.astore_n 2, 1) := by decide +kernel
theorem dX3_all_41 : decode cX3_all 41 = .ok (.iconst 0, 1) := by decide +kernel
theorem dX3_all_42 : decode cX3_all 42 = .ok (.istore_n 3, 1) := by decide +kernel
theorem dX3_all_43 : decode cX3_all 43 = .ok (.iload_n 3, 1) := by decide +kernel
theorem dX3_all_44 : decode cX3_all 44 = .ok (.aload_n 0, 1) := by decide +kernel
theorem dX3_all_45 : decode cX3_all 45 = .ok (.arraylength, 1) := by decide +kernel
theorem dX3_all_46 : decode cX3_all 46 = .ok (.if_icmp .ge 15, 3) := by decide +kernel
theorem dX3_all_49 : decode cX3_all 49 = .ok (.aload_n 2, 1) := by decide +kernel
theorem dX3_all_50 : decode cX3_all 50 = .ok (.iconst 0, 1) := by decide +kernel
theorem dX3_all_51 : decode cX3_all 51 = .ok (.aaload, 1) := by decide +kernel
theorem dX3_all_52 : decode cX3_all 52 = .ok (.iload_n 3, 1) := by decide +kernel
theorem dX3_all_53 : decode cX3_all 53 = .ok (.iconst 1, 1) := by decide +kernel
theorem dX3_all_54 : decode cX3_all 54 = .ok (.iastore, 1) := by decide +kernel
theorem dX3_all_55 : decode cX3_all 55 = .ok (.iinc 3 1, 3) := by decide +kernel
theorem dX3_all_58 : decode cX3_all 58 = .ok (.goto (-15), 3) := by decide +kernel
theorem dX3_all_61 : decode cX3_all 61 = .ok (.iconst 1, 1) := by decide +kernel
theorem dX3_all_62 : decode cX3_all 62 = .ok (.istore_n 3, 1) := by decide +kernel
theorem dX3_all_63 : decode cX3_all 63 = .ok (.iload_n 3, 1) := by decide +kernel
theorem dX3_all_64 : decode cX3_all 64 = .ok (.iload_n 1, 1) := by decide +kernel
theorem dX3_all_65 : decode cX3_all 65 = .ok (.if_icmp .ge 89, 3) := by decide +kernel
theorem dX3_all_68 : decode cX3_all 68 = .ok (.aload_n 0, 1) := by decide +kernel
theorem dX3_all_69 : decode cX3_all 69 = .ok (.arraylength, 1) := by decide +kernel
theorem dX3_all_70 : decode cX3_all 70 = .ok (.iconst 1, 1) := by decide +kernel
theorem dX3_all_71 : decode cX3_all 71 = .ok (.isub, 1) := by decide +kernel
theorem dX3_all_72 : decode cX3_all 72 = .ok (.istore 4, 2) := by decide +kernel
theorem dX3_all_74 : decode cX3_all 74 = .ok (.aload_n 2, 1) := by decide +kernel
theorem dX3_all_75 : decode cX3_all 75 = .ok (.iload_n 3, 1) := by decide +kernel
theorem dX3_all_76 : decode cX3_all 76 = .ok (.iconst 1, 1) := by decide +kernel
theorem dX3_all_77 : decode cX3_all 77 = .ok (.isub, 1) := by decide +kernel
theorem dX3_all_78 : decode cX3_all 78 = .ok (.aaload, 1) := by decide +kernel
theorem dX3_all_79 : decode cX3_all 79 = .ok (.iload 4, 2) := by decide +kernel
theorem dX3_all_81 : decode cX3_all 81 = .ok (.iaload, 1) := by decide +kernel
theorem dX3_all_82 : decode cX3_all 82 = .ok (.aload_n 0, 1) := by decide +kernel
theorem dX3_all_83 : decode cX3_all 83 = .ok (.iload 4, 2) := by decide +kernel
theorem dX3_all_85 : decode cX3_all 85 = .ok (.iaload, 1) := by decide +kernel
theorem dX3_all_86 : decode cX3_all 86 = .ok (.if_icmp .ne 16, 3) := by decide +kernel
theorem dX3_all_89 : decode cX3_all 89 = .ok (.aload_n 2, 1) := by decide +kernel
theorem dX3_all_90 : decode cX3_all 90 = .ok (.iload_n 3, 1) := by decide +kernel
theorem dX3_all_91 : decode cX3_all 91 = .ok (.aaload, 1) := by decide +kernel
theorem dX3_all_92 : decode cX3_all 92 = .ok (.iload 4, 2) := by decide +kernel
theorem dX3_all_94 : decode cX3_all 94 = .ok (.iconst 1, 1) := by decide +kernel
theorem dX3_all_95 : decode cX3_all 95 = .ok (.iastore, 1) := by decide +kernel
theorem dX3_all_96 : decode cX3_all 96 = .ok (.iinc 4 (-1), 3) := by decide +kernel
theorem dX3_all_99 : decode cX3_all 99 = .ok (.goto (-25), 3) := by decide +kernel
theorem dX3_all_102 : decode cX3_all 102 = .ok (.aload_n 2, 1) := by decide +kernel
theorem dX3_all_103 : decode cX3_all 103 = .ok (.iload_n 3, 1) := by decide +kernel
theorem dX3_all_104 : decode cX3_all 104 = .ok (.aaload, 1) := by decide +kernel
theorem dX3_all_105 : decode cX3_all 105 = .ok (.iload 4, 2) := by decide +kernel
theorem dX3_all_107 : decode cX3_all 107 = .ok (.aload_n 2, 1) := by decide +kernel
theorem dX3_all_108 : decode cX3_all 108 = .ok (.iload_n 3, 1) := by decide +kernel
theorem dX3_all_109 : decode cX3_all 109 = .ok (.iconst 1, 1) := by decide +kernel
theorem dX3_all_110 : decode cX3_all 110 = .ok (.isub, 1) := by decide +kernel
theorem dX3_all_111 : decode cX3_all 111 = .ok (.aaload, 1) := by decide +kernel
theorem dX3_all_112 : decode cX3_all 112 = .ok (.iload 4, 2) := by decide +kernel
theorem dX3_all_114 : decode cX3_all 114 = .ok (.iaload, 1) := by decide +kernel
theorem dX3_all_115 : decode cX3_all 115 = .ok (.iconst 1, 1) := by decide +kernel
theorem dX3_all_116 : decode cX3_all 116 = .ok (.iadd, 1) := by decide +kernel
theorem dX3_all_117 : decode cX3_all 117 = .ok (.iastore, 1) := by decide +kernel
theorem dX3_all_118 : decode cX3_all 118 = .ok (.iconst 0, 1) := by decide +kernel
theorem dX3_all_119 : decode cX3_all 119 = .ok (.istore 5, 2) := by decide +kernel
theorem dX3_all_121 : decode cX3_all 121 = .ok (.iload 5, 2) := by decide +kernel
theorem dX3_all_123 : decode cX3_all 123 = .ok (.iload 4, 2) := by decide +kernel
theorem dX3_all_125 : decode cX3_all 125 = .ok (.if_icmp .ge 23, 3) := by decide +kernel
theorem dX3_all_128 : decode cX3_all 128 = .ok (.aload_n 2, 1) := by decide +kernel
theorem dX3_all_129 : decode cX3_all 129 = .ok (.iload_n 3, 1) := by decide +kernel
theorem dX3_all_130 : decode cX3_all 130 = .ok (.aaload, 1) := by decide +kernel
theorem dX3_all_131 : decode cX3_all 131 = .ok (.iload 5, 2) := by decide +kernel
theorem dX3_all_133 : decode cX3_all 133 = .ok (.aload_n 2, 1) := by decide +kernel
theorem dX3_all_134 : decode cX3_all 134 = .ok (.iload_n 3, 1) := by decide +kernel
theorem dX3_all_135 : decode cX3_all 135 = .ok (.iconst 1, 1) := by decide +kernel
theorem dX3_all_136 : decode cX3_all 136 = .ok (.isub, 1) := by decide +kernel
theorem dX3_all_137 : decode cX3_all 137 = .ok (.aaload, 1) := by decide +kernel
theorem dX3_all_138 : decode cX3_all 138 = .ok (.iload 5, 2) := by decide +kernel
theorem dX3_all_140 : decode cX3_all 140 = .ok (.iaload, 1) := by decide +kernel
theorem dX3_all_141 : decode cX3_all 141 = .ok (.iastore, 1) := by decide +kernel
theorem dX3_all_142 : decode cX3_all 142 = .ok (.iinc 5 1, 3) := by decide +kernel
theorem dX3_all_145 : decode cX3_all 145 = .ok (.goto (-24), 3) := by decide +kernel
theorem dX3_all_148 : decode cX3_all 148 = .ok (.iinc 3 1, 3) := by decide +kernel
theorem dX3_all_151 : decode cX3_all 151 = .ok (.goto (-88), 3) := by decide +kernel
theorem dX3_all_154 : decode cX3_all 154 = .ok (.aload_n 2, 1) := by decide +kernel
theorem dX3_all_155 : decode cX3_all 155 = .ok (.areturn, 1) := by decide +kernel
theorem dX3_comes_0 : decode cX3_comes 0 = .ok (.iconst 0, 1) := by decide +kernel
theorem dX3_comes_1 : decode cX3_comes 1 = .ok (.istore_n 3, 1) := by decide +kernel
theorem dX3_comes_2 : decode cX3_comes 2 = .ok (.iconst 0, 1) := by decide +kernel
theorem dX3_comes_3 : decode cX3_comes 3 = .ok (.istore 4, 2) := by decide +kernel
theorem dX3_comes_5 : decode cX3_comes 5 = .ok (.iconst 1, 1) := by decide +kernel
theorem dX3_comes_6 : decode cX3_comes 6 = .ok (.istore 5, 2) := by decide +kernel
theorem dX3_comes_8 : decode cX3_comes 8 = .ok (.aload_n 2, 1) := by decide +kernel
theorem dX3_comes_9 : decode cX3_comes 9 = .ok (.astore 6, 2) := by decide +kernel
theorem dX3_comes_11 : decode cX3_comes 11 = .ok (.aload 6, 2) := by decide +kernel
theorem dX3_comes_13 : decode cX3_comes 13 = .ok (.arraylength, 1) := by decide +kernel
theorem dX3_comes_14 : decode cX3_comes 14 = .ok (.istore 7, 2) := by decide +kernel
theorem dX3_comes_16 : decode cX3_comes 16 = .ok (.iconst 0, 1) := by decide +kernel
theorem dX3_comes_17 : decode cX3_comes 17 = .ok (.istore 8, 2) := by decide +kernel
theorem dX3_comes_19 : decode cX3_comes 19 = .ok (.iload 8, 2) := by decide +kernel
theorem dX3_comes_21 : decode cX3_comes 21 = .ok (.iload 7, 2) := by decide +kernel
theorem dX3_comes_23 : decode cX3_comes 23 = .ok (.if_icmp .ge 55, 3) := by decide +kernel
theorem dX3_comes_26 : decode cX3_comes 26 = .ok (.aload 6, 2) := by decide +kernel
theorem dX3_comes_28 : decode cX3_comes 28 = .ok (.iload 8, 2) := by decide +kernel
theorem dX3_comes_30 : decode cX3_comes 30 = .ok (.iaload, 1) := by decide +kernel
theorem dX3_comes_31 : decode cX3_comes 31 = .ok (.istore 9, 2) := by decide +kernel
theorem dX3_comes_33 : decode cX3_comes 33 = .ok (.iload_n 3, 1) := by decide +kernel
theorem dX3_comes_34 : decode cX3_comes 34 = .ok (.iload 9, 2) := by decide +kernel
theorem dX3_comes_36 : decode cX3_comes 36 = .ok (.iadd, 1) := by decide +kernel
theorem dX3_comes_37 : decode cX3_comes 37 = .ok (.istore_n 3, 1) := by decide +kernel
theorem dX3_comes_38 : decode cX3_comes 38 = .ok (.iload 4, 2) := by decide +kernel
theorem dX3_comes_40 : decode cX3_comes 40 = .ok (.iload 9, 2) := by decide +kernel
theorem dX3_comes_42 : decode cX3_comes 42 = .ok (.iload_n 1, 1) := by decide +kernel
theorem dX3_comes_43 : decode cX3_comes 43 = .ok (.if_icmp .ne 7, 3) := by decide +kernel
theorem dX3_comes_46 : decode cX3_comes 46 = .ok (.iconst 1, 1) := by decide +kernel
theorem dX3_comes_47 : decode cX3_comes 47 = .ok (.goto 4, 3) := by decide +kernel
theorem dX3_comes_50 : decode cX3_comes 50 = .ok (.iconst 0, 1) := by decide +kernel
theorem dX3_comes_51 : decode cX3_comes 51 = .ok (.iadd, 1) := by decide +kernel
theorem dX3_comes_52 : decode cX3_comes 52 = .ok (.istore 4, 2) := by decide +kernel
theorem dX3_comes_54 : decode cX3_comes 54 = .ok (.iload 5, 2) := by decide +kernel
theorem dX3_comes_56 : decode cX3_comes 56 = .ok (.iload 9, 2) := by decide +kernel
theorem dX3_comes_58 : decode cX3_comes 58 = .ok (.aload_n 2, 1) := by decide +kernel
theorem dX3_comes_59 : decode cX3_comes 59 = .ok (.iconst 0, 1) := by decide +kernel
theorem dX3_comes_60 : decode cX3_comes 60 = .ok (.iaload, 1) := by decide +kernel
theorem dX3_comes_61 : decode cX3_comes 61 = .ok (.if_icmp .ne 7, 3) := by decide +kernel
theorem dX3_comes_64 : decode cX3_comes 64 = .ok (.iconst 1, 1) := by decide +kernel
theorem dX3_comes_65 : decode cX3_comes 65 = .ok (.goto 4, 3) := by decide +kernel
theorem dX3_comes_68 : decode cX3_comes 68 = .ok (.iconst 0, 1) := by decide +kernel
theorem dX3_comes_69 : decode cX3_comes 69 = .ok (.iand, 1) := by decide +kernel
theorem dX3_comes_70 : decode cX3_comes 70 = .ok (.istore 5, 2) := by decide +kernel
theorem dX3_comes_72 : decode cX3_comes 72 = .ok (.iinc 8 1, 3) := by decide +kernel
theorem dX3_comes_75 : decode cX3_comes 75 = .ok (.goto (-56), 3) := by decide +kernel
theorem dX3_comes_78 : decode cX3_comes 78 = .ok (.iload_n 0, 1) := by decide +kernel
theorem dX3_comes_79 : decode cX3_comes 79 = .ok (.iconst 5, 1) := by decide +kernel
theorem dX3_comes_80 : decode cX3_comes 80 = .ok (.irem, 1) := by decide +kernel
theorem dX3_comes_81 : decode cX3_comes 81 = .ok (.istore 6, 2) := by decide +kernel
theorem dX3_comes_83 : decode cX3_comes 83 = .ok (.iload 6, 2) := by decide +kernel
theorem dX3_comes_85 : decode cX3_comes 85 = .ok (.ifCond .ne 16, 3) := by decide +kernel
theorem dX3_comes_88 : decode cX3_comes 88 = .ok (.iload_n 3, 1) := by decide +kernel
theorem dX3_comes_89 : decode cX3_comes 89 = .ok (.iload_n 1, 1) := by decide +kernel
theorem dX3_comes_90 : decode cX3_comes 90 = .ok (.if_icmp .ne 7, 3) := by decide +kernel
theorem dX3_comes_93 : decode cX3_comes 93 = .ok (.iconst 1, 1) := by decide +kernel
theorem dX3_comes_94 : decode cX3_comes 94 = .ok (.goto 68, 3) := by decide +kernel
theorem dX3_comes_97 : decode cX3_comes 97 = .ok (.iconst 0, 1) := by decide +kernel
theorem dX3_comes_98 : decode cX3_comes 98 = .ok (.goto 64, 3) := by decide +kernel
theorem dX3_comes_101 : decode cX3_comes 101 = .ok (.iload 6, 2) := by decide +kernel
theorem dX3_comes_103 : decode cX3_comes 103 = .ok (.iconst 1, 1) := by decide +kernel
theorem dX3_comes_104 : decode cX3_comes 104 = .ok (.if_icmp .ne 16, 3) := by decide +kernel
theorem dX3_comes_107 : decode cX3_comes 107 = .ok (.iload_n 3, 1) := by decide +kernel
theorem dX3_comes_108 : decode cX3_comes 108 = .ok (.iload_n 1, 1) := by decide +kernel
theorem dX3_comes_109 : decode cX3_comes 109 = .ok (.if_icmp .lt 7, 3) := by decide +kernel
theorem dX3_comes_112 : decode cX3_comes 112 = .ok (.iconst 1, 1) := by decide +kernel
theorem dX3_comes_113 : decode cX3_comes 113 = .ok (.goto 49, 3) := by decide +kernel
theorem dX3_comes_116 : decode cX3_comes 116 = .ok (.iconst 0, 1) := by decide +kernel
theorem dX3_comes_117 : decode cX3_comes 117 = .ok (.goto 45, 3) := by decide +kernel
theorem dX3_comes_120 : decode cX3_comes 120 = .ok (.iload 6, 2) := by decide +kernel
theorem dX3_comes_122 : decode cX3_comes 122 = .ok (.iconst 2, 1) := by decide +kernel
theorem dX3_comes_123 : decode cX3_comes 123 = .ok (.if_icmp .ne 18, 3) := by decide +kernel
theorem dX3_comes_126 : decode cX3_comes 126 = .ok (.iload_n 3, 1) := by decide +kernel
theorem dX3_comes_127 : decode cX3_comes 127 = .ok (.iconst 1, 1) := by decide +kernel
theorem dX3_comes_128 : decode cX3_comes 128 = .ok (.iand, 1) := by decide +kernel
theorem dX3_comes_129 : decode cX3_comes 129 = .ok (.iconst 1, 1) := by decide +kernel
theorem dX3_comes_130 : decode cX3_comes 130 = .ok (.if_icmp .ne 7, 3) := by decide +kernel
theorem dX3_comes_133 : decode cX3_comes 133 = .ok (.iconst 1, 1) := by decide +kernel
theorem dX3_comes_134 : decode cX3_comes 134 = .ok (.goto 28, 3) := by decide +kernel
theorem dX3_comes_137 : decode cX3_comes 137 = .ok (.iconst 0, 1) := by decide +kernel
theorem dX3_comes_138 : decode cX3_comes 138 = .ok (.goto 24, 3) := by decide +kernel
theorem dX3_comes_141 : decode cX3_comes 141 = .ok (.iload 6, 2) := by decide +kernel
theorem dX3_comes_143 : decode cX3_comes 143 = .ok (.iconst 3, 1) := by decide +kernel
theorem dX3_comes_144 : decode cX3_comes 144 = .ok (.if_icmp .ne 8, 3) := by decide +kernel
theorem dX3_comes_147 : decode cX3_comes 147 = .ok (.iload 5, 2) := by decide +kernel
theorem dX3_comes_149 : decode cX3_comes 149 = .ok (.goto 13, 3) := by decide +kernel
theorem dX3_comes_152 : decode cX3_comes 152 = .ok (.iload 4, 2) := by decide +kernel
theorem dX3_comes_154 : decode cX3_comes 154 = .ok (.ifCond .le 7, 3) := by decide +kernel
theorem dX3_comes_157 : decode cX3_comes 157 = .ok (.iconst 1, 1) := by decide +kernel
theorem dX3_comes_158 : decode cX3_comes 158 = .ok (.goto 4, 3) := by decide +kernel
theorem dX3_comes_161 : decode cX3_comes 161 = .ok (.iconst 0, 1) := by decide +kernel
theorem dX3_comes_162 : decode cX3_comes 162 = .ok (.istore 7, 2) := by decide +kernel
theorem dX3_comes_164 : decode cX3_comes 164 = .ok (.iload 7, 2) := by decide +kernel
theorem dX3_comes_166 : decode cX3_comes 166 = .ok (.iload_n 0, 1) := by decide +kernel
theorem dX3_comes_167 : decode cX3_comes 167 = .ok (.iconst 4, 1) := by decide +kernel
theorem dX3_comes_168 : decode cX3_comes 168 = .ok (.if_icmp .le 7, 3) := by decide +kernel
theorem dX3_comes_171 : decode cX3_comes 171 = .ok (.iconst 1, 1) := by decide +kernel
theorem dX3_comes_172 : decode cX3_comes 172 = .ok (.goto 4, 3) := by decide +kernel
theorem dX3_comes_175 : decode cX3_comes 175 = .ok (.iconst 0, 1) := by decide +kernel
theorem dX3_comes_176 : decode cX3_comes 176 = .ok (.if_icmp .eq 7, 3) := by decide +kernel
theorem dX3_comes_179 : decode cX3_comes 179 = .ok (.iconst 1, 1) := by decide +kernel
theorem dX3_comes_180 : decode cX3_comes 180 = .ok (.goto 4, 3) := by decide +kernel
theorem dX3_comes_183 : decode cX3_comes 183 = .ok (.iconst 0, 1) := by decide +kernel
theorem dX3_comes_184 : decode cX3_comes 184 = .ok (.ireturn, 1) := by decide +kernel
theorem dX3_gain_0 : decode cX3_gain 0 = .ok (.aload_n 0, 1) := by decide +kernel
theorem dX3_gain_1 : decode cX3_gain 1 = .ok (.iconst 1, 1) := by decide +kernel
theorem dX3_gain_2 : decode cX3_gain 2 = .ok (.iaload, 1) := by decide +kernel
theorem dX3_gain_3 : decode cX3_gain 3 = .ok (.aload_n 0, 1) := by decide +kernel
theorem dX3_gain_4 : decode cX3_gain 4 = .ok (.iconst 2, 1) := by decide +kernel
theorem dX3_gain_5 : decode cX3_gain 5 = .ok (.iaload, 1) := by decide +kernel
theorem dX3_gain_6 : decode cX3_gain 6 = .ok (.aload_n 1, 1) := by decide +kernel
theorem dX3_gain_7 : decode cX3_gain 7 = .ok (.invokestatic 33, 3) := by decide +kernel
theorem dX3_gain_10 : decode cX3_gain 10 = .ok (.ifCond .eq 10, 3) := by decide +kernel
theorem dX3_gain_13 : decode cX3_gain 13 = .ok (.aload_n 0, 1) := by decide +kernel
theorem dX3_gain_14 : decode cX3_gain 14 = .ok (.iconst 4, 1) := by decide +kernel
theorem dX3_gain_15 : decode cX3_gain 15 = .ok (.iaload, 1) := by decide +kernel
theorem dX3_gain_16 : decode cX3_gain 16 = .ok (.ineg, 1) := by decide +kernel
theorem dX3_gain_17 : decode cX3_gain 17 = .ok (.goto 6, 3) := by decide +kernel
theorem dX3_gain_20 : decode cX3_gain 20 = .ok (.aload_n 0, 1) := by decide +kernel
theorem dX3_gain_21 : decode cX3_gain 21 = .ok (.iconst 3, 1) := by decide +kernel
theorem dX3_gain_22 : decode cX3_gain 22 = .ok (.iaload, 1) := by decide +kernel
theorem dX3_gain_23 : decode cX3_gain 23 = .ok (.ireturn, 1) := by decide +kernel
theorem dX3_gain__0 : decode cX3_gain_ 0 = .ok (.iconst 0, 1) := by decide +kernel
theorem dX3_gain__1 : decode cX3_gain_ 1 = .ok (.istore_n 2, 1) := by decide +kernel
theorem dX3_gain__2 : decode cX3_gain_ 2 = .ok (.aload_n 0, 1) := by decide +kernel
theorem dX3_gain__3 : decode cX3_gain_ 3 = .ok (.getfield 29, 3) := by decide +kernel
theorem dX3_gain__6 : decode cX3_gain_ 6 = .ok (.astore_n 3, 1) := by decide +kernel
theorem dX3_gain__7 : decode cX3_gain_ 7 = .ok (.aload_n 3, 1) := by decide +kernel
theorem dX3_gain__8 : decode cX3_gain_ 8 = .ok (.arraylength, 1) := by decide +kernel
theorem dX3_gain__9 : decode cX3_gain_ 9 = .ok (.istore 4, 2) := by decide +kernel
theorem dX3_gain__11 : decode cX3_gain_ 11 = .ok (.iconst 0, 1) := by decide +kernel
theorem dX3_gain__12 : decode cX3_gain_ 12 = .ok (.istore 5, 2) := by decide +kernel
theorem dX3_gain__14 : decode cX3_gain_ 14 = .ok (.iload 5, 2) := by decide +kernel
theorem dX3_gain__16 : decode cX3_gain_ 16 = .ok (.iload 4, 2) := by decide +kernel
theorem dX3_gain__18 : decode cX3_gain_ 18 = .ok (.if_icmp .ge 29, 3) := by decide +kernel
theorem dX3_gain__21 : decode cX3_gain_ 21 = .ok (.aload_n 3, 1) := by decide +kernel
theorem dX3_gain__22 : decode cX3_gain_ 22 = .ok (.iload 5, 2) := by decide +kernel
theorem dX3_gain__24 : decode cX3_gain_ 24 = .ok (.aaload, 1) := by decide +kernel
theorem dX3_gain__25 : decode cX3_gain_ 25 = .ok (.astore 6, 2) := by decide +kernel
theorem dX3_gain__27 : decode cX3_gain_ 27 = .ok (.iload_n 2, 1) := by decide +kernel
theorem dX3_gain__28 : decode cX3_gain_ 28 = .ok (.aload 6, 2) := by decide +kernel
theorem dX3_gain__30 : decode cX3_gain_ 30 = .ok (.aload_n 0, 1) := by decide +kernel
theorem dX3_gain__31 : decode cX3_gain_ 31 = .ok (.getfield 17, 3) := by decide +kernel
theorem dX3_gain__34 : decode cX3_gain_ 34 = .ok (.iload_n 1, 1) := by decide +kernel
theorem dX3_gain__35 : decode cX3_gain_ 35 = .ok (.aaload, 1) := by decide +kernel
theorem dX3_gain__36 : decode cX3_gain_ 36 = .ok (.invokestatic 37, 3) := by decide +kernel
theorem dX3_gain__39 : decode cX3_gain_ 39 = .ok (.iadd, 1) := by decide +kernel
theorem dX3_gain__40 : decode cX3_gain_ 40 = .ok (.istore_n 2, 1) := by decide +kernel
theorem dX3_gain__41 : decode cX3_gain_ 41 = .ok (.iinc 5 1, 3) := by decide +kernel
theorem dX3_gain__44 : decode cX3_gain_ 44 = .ok (.goto (-30), 3) := by decide +kernel
theorem dX3_gain__47 : decode cX3_gain_ 47 = .ok (.iload_n 2, 1) := by decide +kernel
theorem dX3_gain__48 : decode cX3_gain_ 48 = .ok (.ireturn, 1) := by decide +kernel
theorem dX3_purseAt_0 : decode cX3_purseAt 0 = .ok (.aload_n 0, 1) := by decide +kernel
theorem dX3_purseAt_1 : decode cX3_purseAt 1 = .ok (.getfield 21, 3) := by decide +kernel
theorem dX3_purseAt_4 : decode cX3_purseAt 4 = .ok (.iload_n 1, 1) := by decide +kernel
theorem dX3_purseAt_5 : decode cX3_purseAt 5 = .ok (.iaload, 1) := by decide +kernel
theorem dX3_purseAt_6 : decode cX3_purseAt 6 = .ok (.istore_n 3, 1) := by decide +kernel
theorem dX3_purseAt_7 : decode cX3_purseAt 7 = .ok (.aload_n 0, 1) := by decide +kernel
theorem dX3_purseAt_8 : decode cX3_purseAt 8 = .ok (.getfield 29, 3) := by decide +kernel
theorem dX3_purseAt_11 : decode cX3_purseAt 11 = .ok (.astore 4, 2) := by decide +kernel
theorem dX3_purseAt_13 : decode cX3_purseAt 13 = .ok (.aload 4, 2) := by decide +kernel
theorem dX3_purseAt_15 : decode cX3_purseAt 15 = .ok (.arraylength, 1) := by decide +kernel
theorem dX3_purseAt_16 : decode cX3_purseAt 16 = .ok (.istore 5, 2) := by decide +kernel
theorem dX3_purseAt_18 : decode cX3_purseAt 18 = .ok (.iconst 0, 1) := by decide +kernel
theorem dX3_purseAt_19 : decode cX3_purseAt 19 = .ok (.istore 6, 2) := by decide +kernel
theorem dX3_purseAt_21 : decode cX3_purseAt 21 = .ok (.iload 6, 2) := by decide +kernel
theorem dX3_purseAt_23 : decode cX3_purseAt 23 = .ok (.iload 5, 2) := by decide +kernel
theorem dX3_purseAt_25 : decode cX3_purseAt 25 = .ok (.if_icmp .ge 60, 3) := by decide +kernel
theorem dX3_purseAt_28 : decode cX3_purseAt 28 = .ok (.aload 4, 2) := by decide +kernel
theorem dX3_purseAt_30 : decode cX3_purseAt 30 = .ok (.iload 6, 2) := by decide +kernel
theorem dX3_purseAt_32 : decode cX3_purseAt 32 = .ok (.aaload, 1) := by decide +kernel
theorem dX3_purseAt_33 : decode cX3_purseAt 33 = .ok (.astore 7, 2) := by decide +kernel
theorem dX3_purseAt_35 : decode cX3_purseAt 35 = .ok (.iload_n 3, 1) := by decide +kernel
theorem dX3_purseAt_36 : decode cX3_purseAt 36 = .ok (.aload 7, 2) := by decide +kernel
theorem dX3_purseAt_38 : decode cX3_purseAt 38 = .ok (.iconst 0, 1) := by decide +kernel
theorem dX3_purseAt_39 : decode cX3_purseAt 39 = .ok (.iaload, 1) := by decide +kernel
theorem dX3_purseAt_40 : decode cX3_purseAt 40 = .ok (.iload_n 1, 1) := by decide +kernel
theorem dX3_purseAt_41 : decode cX3_purseAt 41 = .ok (.if_icmp .ne 35, 3) := by decide +kernel
theorem dX3_purseAt_44 : decode cX3_purseAt 44 = .ok (.aload 7, 2) := by decide +kernel
theorem dX3_purseAt_46 : decode cX3_purseAt 46 = .ok (.iconst 1, 1) := by decide +kernel
