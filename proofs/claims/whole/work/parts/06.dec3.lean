theorem dX3_lay_188 : decode cX3_lay 188 = .ok (.iload_n 2, 1) := by decide +kernel
theorem dX3_lay_189 : decode cX3_lay 189 = .ok (.iload_n 3, 1) := by decide +kernel
theorem dX3_lay_190 : decode cX3_lay 190 = .ok (.iload 7, 2) := by decide +kernel
theorem dX3_lay_192 : decode cX3_lay 192 = .ok (.invokevirtual 62, 3) := by decide +kernel
theorem dX3_lay_195 : decode cX3_lay 195 = .ok (.bastore, 1) := by decide +kernel
theorem dX3_lay_196 : decode cX3_lay 196 = .ok (.iinc 7 1, 3) := by decide +kernel
theorem dX3_lay_199 : decode cX3_lay 199 = .ok (.goto (-36), 3) := by decide +kernel
theorem dX3_lay_202 : decode cX3_lay 202 = .ok (.aload_n 0, 1) := by decide +kernel
theorem dX3_lay_203 : decode cX3_lay 203 = .ok (.dup, 1) := by decide +kernel
theorem dX3_lay_204 : decode cX3_lay 204 = .ok (.getfield 51, 3) := by decide +kernel
theorem dX3_lay_207 : decode cX3_lay 207 = .ok (.iconst 1, 1) := by decide +kernel
theorem dX3_lay_208 : decode cX3_lay 208 = .ok (.iadd, 1) := by decide +kernel
theorem dX3_lay_209 : decode cX3_lay 209 = .ok (.putfield 51, 3) := by decide +kernel
theorem dX3_lay_212 : decode cX3_lay 212 = .ok (.aload_n 0, 1) := by decide +kernel
theorem dX3_lay_213 : decode cX3_lay 213 = .ok (.getfield 51, 3) := by decide +kernel
theorem dX3_lay_216 : decode cX3_lay 216 = .ok (.iconst 1, 1) := by decide +kernel
theorem dX3_lay_217 : decode cX3_lay 217 = .ok (.isub, 1) := by decide +kernel
theorem dX3_lay_218 : decode cX3_lay 218 = .ok (.ireturn, 1) := by decide +kernel
theorem dX3_takeBack_0 : decode cX3_takeBack 0 = .ok (.aload_n 0, 1) := by decide +kernel
theorem dX3_takeBack_1 : decode cX3_takeBack 1 = .ok (.iconst 0, 1) := by decide +kernel
theorem dX3_takeBack_2 : decode cX3_takeBack 2 = .ok (.putfield 48, 3) := by decide +kernel
theorem dX3_takeBack_5 : decode cX3_takeBack 5 = .ok (.aload_n 0, 1) := by decide +kernel
theorem dX3_takeBack_6 : decode cX3_takeBack 6 = .ok (.iload_n 1, 1) := by decide +kernel
theorem dX3_takeBack_7 : decode cX3_takeBack 7 = .ok (.invokevirtual 121, 3) := by decide +kernel
theorem dX3_takeBack_10 : decode cX3_takeBack 10 = .ok (.ifCond .ne 9, 3) := by decide +kernel
theorem dX3_takeBack_13 : decode cX3_takeBack 13 = .ok (.aload_n 0, 1) := by decide +kernel
theorem dX3_takeBack_14 : decode cX3_takeBack 14 = .ok (.iconst 1, 1) := by decide +kernel
theorem dX3_takeBack_15 : decode cX3_takeBack 15 = .ok (.invokevirtual 102, 3) := by decide +kernel
theorem dX3_takeBack_18 : decode cX3_takeBack 18 = .ok (.ireturn, 1) := by decide +kernel
theorem dX3_takeBack_19 : decode cX3_takeBack 19 = .ok (.aload_n 0, 1) := by decide +kernel
theorem dX3_takeBack_20 : decode cX3_takeBack 20 = .ok (.getfield 35, 3) := by decide +kernel
theorem dX3_takeBack_23 : decode cX3_takeBack 23 = .ok (.iload_n 1, 1) := by decide +kernel
theorem dX3_takeBack_24 : decode cX3_takeBack 24 = .ok (.iaload, 1) := by decide +kernel
theorem dX3_takeBack_25 : decode cX3_takeBack 25 = .ok (.istore_n 2, 1) := by decide +kernel
theorem dX3_takeBack_26 : decode cX3_takeBack 26 = .ok (.aload_n 0, 1) := by decide +kernel
theorem dX3_takeBack_27 : decode cX3_takeBack 27 = .ok (.getfield 20, 3) := by decide +kernel
theorem dX3_takeBack_30 : decode cX3_takeBack 30 = .ok (.aload_n 0, 1) := by decide +kernel
theorem dX3_takeBack_31 : decode cX3_takeBack 31 = .ok (.getfield 26, 3) := by decide +kernel
theorem dX3_takeBack_34 : decode cX3_takeBack 34 = .ok (.iload_n 1, 1) := by decide +kernel
theorem dX3_takeBack_35 : decode cX3_takeBack 35 = .ok (.iaload, 1) := by decide +kernel
theorem dX3_takeBack_36 : decode cX3_takeBack 36 = .ok (.dup2, 1) := by decide +kernel
theorem dX3_takeBack_37 : decode cX3_takeBack 37 = .ok (.iaload, 1) := by decide +kernel
theorem dX3_takeBack_38 : decode cX3_takeBack 38 = .ok (.iload_n 2, 1) := by decide +kernel
theorem dX3_takeBack_39 : decode cX3_takeBack 39 = .ok (.iadd, 1) := by decide +kernel
theorem dX3_takeBack_40 : decode cX3_takeBack 40 = .ok (.iastore, 1) := by decide +kernel
theorem dX3_takeBack_41 : decode cX3_takeBack 41 = .ok (.aload_n 0, 1) := by decide +kernel
theorem dX3_takeBack_42 : decode cX3_takeBack 42 = .ok (.dup, 1) := by decide +kernel
theorem dX3_takeBack_43 : decode cX3_takeBack 43 = .ok (.getfield 51, 3) := by decide +kernel
theorem dX3_takeBack_46 : decode cX3_takeBack 46 = .ok (.iconst 1, 1) := by decide +kernel
theorem dX3_takeBack_47 : decode cX3_takeBack 47 = .ok (.isub, 1) := by decide +kernel
theorem dX3_takeBack_48 : decode cX3_takeBack 48 = .ok (.putfield 51, 3) := by decide +kernel
theorem dX3_takeBack_51 : decode cX3_takeBack 51 = .ok (.iload_n 1, 1) := by decide +kernel
theorem dX3_takeBack_52 : decode cX3_takeBack 52 = .ok (.istore_n 3, 1) := by decide +kernel
theorem dX3_takeBack_53 : decode cX3_takeBack 53 = .ok (.iload_n 3, 1) := by decide +kernel
theorem dX3_takeBack_54 : decode cX3_takeBack 54 = .ok (.aload_n 0, 1) := by decide +kernel
theorem dX3_takeBack_55 : decode cX3_takeBack 55 = .ok (.getfield 51, 3) := by decide +kernel
theorem dX3_takeBack_58 : decode cX3_takeBack 58 = .ok (.if_icmp .ge 106, 3) := by decide +kernel
theorem dX3_takeBack_61 : decode cX3_takeBack 61 = .ok (.aload_n 0, 1) := by decide +kernel
theorem dX3_takeBack_62 : decode cX3_takeBack 62 = .ok (.getfield 26, 3) := by decide +kernel
theorem dX3_takeBack_65 : decode cX3_takeBack 65 = .ok (.iload_n 3, 1) := by decide +kernel
theorem dX3_takeBack_66 : decode cX3_takeBack 66 = .ok (.aload_n 0, 1) := by decide +kernel
theorem dX3_takeBack_67 : decode cX3_takeBack 67 = .ok (.getfield 26, 3) := by decide +kernel
theorem dX3_takeBack_70 : decode cX3_takeBack 70 = .ok (.iload_n 3, 1) := by decide +kernel
theorem dX3_takeBack_71 : decode cX3_takeBack 71 = .ok (.iconst 1, 1) := by decide +kernel
theorem dX3_takeBack_72 : decode cX3_takeBack 72 = .ok (.iadd, 1) := by decide +kernel
theorem dX3_takeBack_73 : decode cX3_takeBack 73 = .ok (.iaload, 1) := by decide +kernel
theorem dX3_takeBack_74 : decode cX3_takeBack 74 = .ok (.iastore, 1) := by decide +kernel
theorem dX3_takeBack_75 : decode cX3_takeBack 75 = .ok (.aload_n 0, 1) := by decide +kernel
theorem dX3_takeBack_76 : decode cX3_takeBack 76 = .ok (.getfield 29, 3) := by decide +kernel
theorem dX3_takeBack_79 : decode cX3_takeBack 79 = .ok (.iload_n 3, 1) := by decide +kernel
theorem dX3_takeBack_80 : decode cX3_takeBack 80 = .ok (.aload_n 0, 1) := by decide +kernel
theorem dX3_takeBack_81 : decode cX3_takeBack 81 = .ok (.getfield 29, 3) := by decide +kernel
theorem dX3_takeBack_84 : decode cX3_takeBack 84 = .ok (.iload_n 3, 1) := by decide +kernel
theorem dX3_takeBack_85 : decode cX3_takeBack 85 = .ok (.iconst 1, 1) := by decide +kernel
theorem dX3_takeBack_86 : decode cX3_takeBack 86 = .ok (.iadd, 1) := by decide +kernel
theorem dX3_takeBack_87 : decode cX3_takeBack 87 = .ok (.iaload, 1) := by decide +kernel
theorem dX3_takeBack_88 : decode cX3_takeBack 88 = .ok (.iastore, 1) := by decide +kernel
theorem dX3_takeBack_89 : decode cX3_takeBack 89 = .ok (.aload_n 0, 1) := by decide +kernel
theorem dX3_takeBack_90 : decode cX3_takeBack 90 = .ok (.getfield 32, 3) := by decide +kernel
theorem dX3_takeBack_93 : decode cX3_takeBack 93 = .ok (.iload_n 3, 1) := by decide +kernel
theorem dX3_takeBack_94 : decode cX3_takeBack 94 = .ok (.aload_n 0, 1) := by decide +kernel
theorem dX3_takeBack_95 : decode cX3_takeBack 95 = .ok (.getfield 32, 3) := by decide +kernel
theorem dX3_takeBack_98 : decode cX3_takeBack 98 = .ok (.iload_n 3, 1) := by decide +kernel
theorem dX3_takeBack_99 : decode cX3_takeBack 99 = .ok (.iconst 1, 1) := by decide +kernel
theorem dX3_takeBack_100 : decode cX3_takeBack 100 = .ok (.iadd, 1) := by decide +kernel
theorem dX3_takeBack_101 : decode cX3_takeBack 101 = .ok (.iaload, 1) := by decide +kernel
theorem dX3_takeBack_102 : decode cX3_takeBack 102 = .ok (.iastore, 1) := by decide +kernel
theorem dX3_takeBack_103 : decode cX3_takeBack 103 = .ok (.aload_n 0, 1) := by decide +kernel
theorem dX3_takeBack_104 : decode cX3_takeBack 104 = .ok (.getfield 35, 3) := by decide +kernel
theorem dX3_takeBack_107 : decode cX3_takeBack 107 = .ok (.iload_n 3, 1) := by decide +kernel
theorem dX3_takeBack_108 : decode cX3_takeBack 108 = .ok (.aload_n 0, 1) := by decide +kernel
theorem dX3_takeBack_109 : decode cX3_takeBack 109 = .ok (.getfield 35, 3) := by decide +kernel
theorem dX3_takeBack_112 : decode cX3_takeBack 112 = .ok (.iload_n 3, 1) := by decide +kernel
theorem dX3_takeBack_113 : decode cX3_takeBack 113 = .ok (.iconst 1, 1) := by decide +kernel
theorem dX3_takeBack_114 : decode cX3_takeBack 114 = .ok (.iadd, 1) := by decide +kernel
theorem dX3_takeBack_115 : decode cX3_takeBack 115 = .ok (.iaload, 1) := by decide +kernel
theorem dX3_takeBack_116 : decode cX3_takeBack 116 = .ok (.iastore, 1) := by decide +kernel
theorem dX3_takeBack_117 : decode cX3_takeBack 117 = .ok (.aload_n 0, 1) := by decide +kernel
theorem dX3_takeBack_118 : decode cX3_takeBack 118 = .ok (.getfield 38, 3) := by decide +kernel
theorem dX3_takeBack_121 : decode cX3_takeBack 121 = .ok (.iload_n 3, 1) := by decide +kernel
theorem dX3_takeBack_122 : decode cX3_takeBack 122 = .ok (.aload_n 0, 1) := by decide +kernel
theorem dX3_takeBack_123 : decode cX3_takeBack 123 = .ok (.getfield 38, 3) := by decide +kernel
theorem dX3_takeBack_126 : decode cX3_takeBack 126 = .ok (.iload_n 3, 1) := by decide +kernel
theorem dX3_takeBack_127 : decode cX3_takeBack 127 = .ok (.iconst 1, 1) := by decide +kernel
theorem dX3_takeBack_128 : decode cX3_takeBack 128 = .ok (.iadd, 1) := by decide +kernel
theorem dX3_takeBack_129 : decode cX3_takeBack 129 = .ok (.iaload, 1) := by decide +kernel
theorem dX3_takeBack_130 : decode cX3_takeBack 130 = .ok (.iastore, 1) := by decide +kernel
theorem dX3_takeBack_131 : decode cX3_takeBack 131 = .ok (.aload_n 0, 1) := by decide +kernel
theorem dX3_takeBack_132 : decode cX3_takeBack 132 = .ok (.getfield 41, 3) := by decide +kernel
theorem dX3_takeBack_135 : decode cX3_takeBack 135 = .ok (.sipush 1728, 3) := by decide +kernel
theorem dX3_takeBack_138 : decode cX3_takeBack 138 = .ok (.iload_n 3, 1) := by decide +kernel
theorem dX3_takeBack_139 : decode cX3_takeBack 139 = .ok (.iconst 1, 1) := by decide +kernel
theorem dX3_takeBack_140 : decode cX3_takeBack 140 = .ok (.iadd, 1) := by decide +kernel
theorem dX3_takeBack_141 : decode cX3_takeBack 141 = .ok (.imul, 1) := by decide +kernel
theorem dX3_takeBack_142 : decode cX3_takeBack 142 = .ok (.aload_n 0, 1) := by decide +kernel
theorem dX3_takeBack_143 : decode cX3_takeBack 143 = .ok (.getfield 41, 3) := by decide +kernel
theorem dX3_takeBack_146 : decode cX3_takeBack 146 = .ok (.sipush 1728, 3) := by decide +kernel
theorem dX3_takeBack_149 : decode cX3_takeBack 149 = .ok (.iload_n 3, 1) := by decide +kernel
theorem dX3_takeBack_150 : decode cX3_takeBack 150 = .ok (.imul, 1) := by decide +kernel
theorem dX3_takeBack_151 : decode cX3_takeBack 151 = .ok (.aload_n 0, 1) := by decide +kernel
theorem dX3_takeBack_152 : decode cX3_takeBack 152 = .ok (.getfield 17, 3) := by decide +kernel
theorem dX3_takeBack_155 : decode cX3_takeBack 155 = .ok (.invokestatic 124, 3) := by decide +kernel
theorem dX3_takeBack_158 : decode cX3_takeBack 158 = .ok (.iinc 3 1, 3) := by decide +kernel
theorem dX3_takeBack_161 : decode cX3_takeBack 161 = .ok (.goto (-108), 3) := by decide +kernel
theorem dX3_takeBack_164 : decode cX3_takeBack 164 = .ok (.iload_n 2, 1) := by decide +kernel
theorem dX3_takeBack_165 : decode cX3_takeBack 165 = .ok (.ireturn, 1) := by decide +kernel
theorem dX3_settle_0 : decode cX3_settle 0 = .ok (.aload_n 0, 1) := by decide +kernel
theorem dX3_settle_1 : decode cX3_settle 1 = .ok (.iconst 0, 1) := by decide +kernel
theorem dX3_settle_2 : decode cX3_settle 2 = .ok (.putfield 48, 3) := by decide +kernel
theorem dX3_settle_5 : decode cX3_settle 5 = .ok (.aload_n 0, 1) := by decide +kernel
theorem dX3_settle_6 : decode cX3_settle 6 = .ok (.iload_n 1, 1) := by decide +kernel
theorem dX3_settle_7 : decode cX3_settle 7 = .ok (.invokevirtual 111, 3) := by decide +kernel
theorem dX3_settle_10 : decode cX3_settle 10 = .ok (.ifCond .ne 9, 3) := by decide +kernel
theorem dX3_settle_13 : decode cX3_settle 13 = .ok (.aload_n 0, 1) := by decide +kernel
theorem dX3_settle_14 : decode cX3_settle 14 = .ok (.iconst 1, 1) := by decide +kernel
theorem dX3_settle_15 : decode cX3_settle 15 = .ok (.invokevirtual 102, 3) := by decide +kernel
theorem dX3_settle_18 : decode cX3_settle 18 = .ok (.ireturn, 1) := by decide +kernel
theorem dX3_settle_19 : decode cX3_settle 19 = .ok (.aload_n 0, 1) := by decide +kernel
theorem dX3_settle_20 : decode cX3_settle 20 = .ok (.iload_n 1, 1) := by decide +kernel
theorem dX3_settle_21 : decode cX3_settle 21 = .ok (.invokevirtual 92, 3) := by decide +kernel
theorem dX3_settle_24 : decode cX3_settle 24 = .ok (.istore_n 2, 1) := by decide +kernel
theorem dX3_settle_25 : decode cX3_settle 25 = .ok (.iconst 0, 1) := by decide +kernel
theorem dX3_settle_26 : decode cX3_settle 26 = .ok (.istore_n 3, 1) := by decide +kernel
theorem dX3_settle_27 : decode cX3_settle 27 = .ok (.iload_n 3, 1) := by decide +kernel
theorem dX3_settle_28 : decode cX3_settle 28 = .ok (.aload_n 0, 1) := by decide +kernel
theorem dX3_settle_29 : decode cX3_settle 29 = .ok (.getfield 51, 3) := by decide +kernel
theorem dX3_settle_32 : decode cX3_settle 32 = .ok (.if_icmp .ge 51, 3) := by decide +kernel
theorem dX3_settle_35 : decode cX3_settle 35 = .ok (.aload_n 0, 1) := by decide +kernel
theorem dX3_settle_36 : decode cX3_settle 36 = .ok (.getfield 41, 3) := by decide +kernel
theorem dX3_settle_39 : decode cX3_settle 39 = .ok (.sipush 1728, 3) := by decide +kernel
theorem dX3_settle_42 : decode cX3_settle 42 = .ok (.iload_n 3, 1) := by decide +kernel
theorem dX3_settle_43 : decode cX3_settle 43 = .ok (.imul, 1) := by decide +kernel
theorem dX3_settle_44 : decode cX3_settle 44 = .ok (.iload_n 1, 1) := by decide +kernel
theorem dX3_settle_45 : decode cX3_settle 45 = .ok (.iadd, 1) := by decide +kernel
theorem dX3_settle_46 : decode cX3_settle 46 = .ok (.baload, 1) := by decide +kernel
theorem dX3_settle_47 : decode cX3_settle 47 = .ok (.ifCond .eq 30, 3) := by decide +kernel
theorem dX3_settle_50 : decode cX3_settle 50 = .ok (.aload_n 0, 1) := by decide +kernel
theorem dX3_settle_51 : decode cX3_settle 51 = .ok (.getfield 20, 3) := by decide +kernel
theorem dX3_settle_54 : decode cX3_settle 54 = .ok (.aload_n 0, 1) := by decide +kernel
theorem dX3_settle_55 : decode cX3_settle 55 = .ok (.getfield 26, 3) := by decide +kernel
theorem dX3_settle_58 : decode cX3_settle 58 = .ok (.iload_n 3, 1) := by decide +kernel
theorem dX3_settle_59 : decode cX3_settle 59 = .ok (.iaload, 1) := by decide +kernel
theorem dX3_settle_60 : decode cX3_settle 60 = .ok (.dup2, 1) := by decide +kernel
theorem dX3_settle_61 : decode cX3_settle 61 = .ok (.iaload, 1) := by decide +kernel
theorem dX3_settle_62 : decode cX3_settle 62 = .ok (.aload_n 0, 1) := by decide +kernel
theorem dX3_settle_63 : decode cX3_settle 63 = .ok (.getfield 35, 3) := by decide +kernel
theorem dX3_settle_66 : decode cX3_settle 66 = .ok (.iload_n 3, 1) := by decide +kernel
theorem dX3_settle_67 : decode cX3_settle 67 = .ok (.iaload, 1) := by decide +kernel
theorem dX3_settle_68 : decode cX3_settle 68 = .ok (.aload_n 0, 1) := by decide +kernel
theorem dX3_settle_69 : decode cX3_settle 69 = .ok (.getfield 38, 3) := by decide +kernel
theorem dX3_settle_72 : decode cX3_settle 72 = .ok (.iload_n 3, 1) := by decide +kernel
theorem dX3_settle_73 : decode cX3_settle 73 = .ok (.iaload, 1) := by decide +kernel
theorem dX3_settle_74 : decode cX3_settle 74 = .ok (.iadd, 1) := by decide +kernel
theorem dX3_settle_75 : decode cX3_settle 75 = .ok (.iadd, 1) := by decide +kernel
theorem dX3_settle_76 : decode cX3_settle 76 = .ok (.iastore, 1) := by decide +kernel
theorem dX3_settle_77 : decode cX3_settle 77 = .ok (.iinc 3 1, 3) := by decide +kernel
theorem dX3_settle_80 : decode cX3_settle 80 = .ok (.goto (-53), 3) := by decide +kernel
theorem dX3_settle_83 : decode cX3_settle 83 = .ok (.aload_n 0, 1) := by decide +kernel
theorem dX3_settle_84 : decode cX3_settle 84 = .ok (.dup, 1) := by decide +kernel
theorem dX3_settle_85 : decode cX3_settle 85 = .ok (.getfield 23, 3) := by decide +kernel
theorem dX3_settle_88 : decode cX3_settle 88 = .ok (.iload_n 2, 1) := by decide +kernel
theorem dX3_settle_89 : decode cX3_settle 89 = .ok (.iadd, 1) := by decide +kernel
theorem dX3_settle_90 : decode cX3_settle 90 = .ok (.putfield 23, 3) := by decide +kernel
theorem dX3_settle_93 : decode cX3_settle 93 = .ok (.aload_n 0, 1) := by decide +kernel
theorem dX3_settle_94 : decode cX3_settle 94 = .ok (.dup, 1) := by decide +kernel
theorem dX3_settle_95 : decode cX3_settle 95 = .ok (.getfield 130, 3) := by decide +kernel
theorem dX3_settle_98 : decode cX3_settle 98 = .ok (.iconst 1, 1) := by decide +kernel
theorem dX3_settle_99 : decode cX3_settle 99 = .ok (.iadd, 1) := by decide +kernel
theorem dX3_settle_100 : decode cX3_settle 100 = .ok (.putfield 130, 3) := by decide +kernel
theorem dX3_settle_103 : decode cX3_settle 103 = .ok (.aload_n 0, 1) := by decide +kernel
theorem dX3_settle_104 : decode cX3_settle 104 = .ok (.iconst 0, 1) := by decide +kernel
theorem dX3_settle_105 : decode cX3_settle 105 = .ok (.putfield 51, 3) := by decide +kernel
theorem dX3_settle_108 : decode cX3_settle 108 = .ok (.iload_n 2, 1) := by decide +kernel
theorem dX3_settle_109 : decode cX3_settle 109 = .ok (.ireturn, 1) := by decide +kernel
theorem dX3_open_0 : decode cX3_open 0 = .ok (.aload_n 0, 1) := by decide +kernel
theorem dX3_open_1 : decode cX3_open 1 = .ok (.aload_n 0, 1) := by decide +kernel
theorem dX3_open_2 : decode cX3_open 2 = .ok (.getfield 51, 3) := by decide +kernel
theorem dX3_open_5 : decode cX3_open 5 = .ok (.invokevirtual 108, 3) := by decide +kernel
theorem dX3_open_8 : decode cX3_open 8 = .ok (.ireturn, 1) := by decide +kernel
theorem dX3_bank_0 : decode cX3_bank 0 = .ok (.aload_n 0, 1) := by decide +kernel
theorem dX3_bank_1 : decode cX3_bank 1 = .ok (.aload_n 0, 1) := by decide +kernel
theorem dX3_bank_2 : decode cX3_bank 2 = .ok (.getfield 23, 3) := by decide +kernel
theorem dX3_bank_5 : decode cX3_bank 5 = .ok (.invokevirtual 108, 3) := by decide +kernel
theorem dX3_bank_8 : decode cX3_bank 8 = .ok (.ireturn, 1) := by decide +kernel
theorem dX3_rounds_0 : decode cX3_rounds 0 = .ok (.aload_n 0, 1) := by decide +kernel
theorem dX3_rounds_1 : decode cX3_rounds 1 = .ok (.aload_n 0, 1) := by decide +kernel
theorem dX3_rounds_2 : decode cX3_rounds 2 = .ok (.getfield 130, 3) := by decide +kernel
theorem dX3_rounds_5 : decode cX3_rounds 5 = .ok (.invokevirtual 108, 3) := by decide +kernel
theorem dX3_rounds_8 : decode cX3_rounds 8 = .ok (.ireturn, 1) := by decide +kernel
theorem dX3_purseOf_0 : decode cX3_purseOf 0 = .ok (.aload_n 0, 1) := by decide +kernel
theorem dX3_purseOf_1 : decode cX3_purseOf 1 = .ok (.iconst 0, 1) := by decide +kernel
theorem dX3_purseOf_2 : decode cX3_purseOf 2 = .ok (.putfield 48, 3) := by decide +kernel
theorem dX3_purseOf_5 : decode cX3_purseOf 5 = .ok (.iload_n 1, 1) := by decide +kernel
theorem dX3_purseOf_6 : decode cX3_purseOf 6 = .ok (.invokestatic 118, 3) := by decide +kernel
theorem dX3_purseOf_9 : decode cX3_purseOf 9 = .ok (.ifCond .eq 12, 3) := by decide +kernel
theorem dX3_purseOf_12 : decode cX3_purseOf 12 = .ok (.aload_n 0, 1) := by decide +kernel
theorem dX3_purseOf_13 : decode cX3_purseOf 13 = .ok (.getfield 20, 3) := by decide +kernel
theorem dX3_purseOf_16 : decode cX3_purseOf 16 = .ok (.iload_n 1, 1) := by decide +kernel
theorem dX3_purseOf_17 : decode cX3_purseOf 17 = .ok (.iaload, 1) := by decide +kernel
theorem dX3_purseOf_18 : decode cX3_purseOf 18 = .ok (.goto 8, 3) := by decide +kernel
theorem dX3_purseOf_21 : decode cX3_purseOf 21 = .ok (.aload_n 0, 1) := by decide +kernel
theorem dX3_purseOf_22 : decode cX3_purseOf 22 = .ok (.iconst 1, 1) := by decide +kernel
theorem dX3_purseOf_23 : decode cX3_purseOf 23 = .ok (.invokevirtual 102, 3) := by decide +kernel
theorem dX3_purseOf_26 : decode cX3_purseOf 26 = .ok (.ireturn, 1) := by decide +kernel
theorem dX3_of_0 : decode cX3_of 0 = .ok (.aload_n 0, 1) := by decide +kernel
theorem dX3_of_1 : decode cX3_of 1 = .ok (.iconst 0, 1) := by decide +kernel
theorem dX3_of_2 : decode cX3_of 2 = .ok (.putfield 48, 3) := by decide +kernel
theorem dX3_of_5 : decode cX3_of 5 = .ok (.aload_n 0, 1) := by decide +kernel
theorem dX3_of_6 : decode cX3_of 6 = .ok (.iload_n 1, 1) := by decide +kernel
theorem dX3_of_7 : decode cX3_of 7 = .ok (.invokevirtual 121, 3) := by decide +kernel
theorem dX3_of_10 : decode cX3_of 10 = .ok (.ifCond .eq 9, 3) := by decide +kernel
theorem dX3_of_13 : decode cX3_of 13 = .ok (.aload_n 2, 1) := by decide +kernel
theorem dX3_of_14 : decode cX3_of 14 = .ok (.iload_n 1, 1) := by decide +kernel
theorem dX3_of_15 : decode cX3_of 15 = .ok (.iaload, 1) := by decide +kernel
theorem dX3_of_16 : decode cX3_of 16 = .ok (.goto 8, 3) := by decide +kernel
theorem dX3_of_19 : decode cX3_of 19 = .ok (.aload_n 0, 1) := by decide +kernel
theorem dX3_of_20 : decode cX3_of 20 = .ok (.iconst 1, 1) := by decide +kernel
theorem dX3_of_21 : decode cX3_of 21 = .ok (.invokevirtual 102, 3) := by decide +kernel
theorem dX3_of_24 : decode cX3_of 24 = .ok (.ireturn, 1) := by decide +kernel
theorem dX3_patronOf_0 : decode cX3_patronOf 0 = .ok (.aload_n 0, 1) := by decide +kernel
theorem dX3_patronOf_1 : decode cX3_patronOf 1 = .ok (.iload_n 1, 1) := by decide +kernel
theorem dX3_patronOf_2 : decode cX3_patronOf 2 = .ok (.aload_n 0, 1) := by decide +kernel
theorem dX3_patronOf_3 : decode cX3_patronOf 3 = .ok (.getfield 26, 3) := by decide +kernel
theorem dX3_patronOf_6 : decode cX3_patronOf 6 = .ok (.invokevirtual 133, 3) := by decide +kernel
theorem dX3_patronOf_9 : decode cX3_patronOf 9 = .ok (.ireturn, 1) := by decide +kernel
theorem dX3_stakeOf_0 : decode cX3_stakeOf 0 = .ok (.aload_n 0, 1) := by decide +kernel
theorem dX3_stakeOf_1 : decode cX3_stakeOf 1 = .ok (.iload_n 1, 1) := by decide +kernel
theorem dX3_stakeOf_2 : decode cX3_stakeOf 2 = .ok (.aload_n 0, 1) := by decide +kernel
theorem dX3_stakeOf_3 : decode cX3_stakeOf 3 = .ok (.getfield 35, 3) := by decide +kernel
theorem dX3_stakeOf_6 : decode cX3_stakeOf 6 = .ok (.invokevirtual 133, 3) := by decide +kernel
theorem dX3_stakeOf_9 : decode cX3_stakeOf 9 = .ok (.ireturn, 1) := by decide +kernel
theorem dX3_bringsOf_0 : decode cX3_bringsOf 0 = .ok (.aload_n 0, 1) := by decide +kernel
theorem dX3_bringsOf_1 : decode cX3_bringsOf 1 = .ok (.iload_n 1, 1) := by decide +kernel
theorem dX3_bringsOf_2 : decode cX3_bringsOf 2 = .ok (.aload_n 0, 1) := by decide +kernel
theorem dX3_bringsOf_3 : decode cX3_bringsOf 3 = .ok (.getfield 38, 3) := by decide +kernel
theorem dX3_bringsOf_6 : decode cX3_bringsOf 6 = .ok (.invokevirtual 133, 3) := by decide +kernel
theorem dX3_bringsOf_9 : decode cX3_bringsOf 9 = .ok (.ireturn, 1) := by decide +kernel
theorem dX3_allStakes_0 : decode cX3_allStakes 0 = .ok (.iconst 0, 1) := by decide +kernel
theorem dX3_allStakes_1 : decode cX3_allStakes 1 = .ok (.istore_n 1, 1) := by decide +kernel
theorem dX3_allStakes_2 : decode cX3_allStakes 2 = .ok (.iconst 0, 1) := by decide +kernel
theorem dX3_allStakes_3 : decode cX3_allStakes 3 = .ok (.istore_n 2, 1) := by decide +kernel
theorem dX3_allStakes_4 : decode cX3_allStakes 4 = .ok (.iload_n 2, 1) := by decide +kernel
theorem dX3_allStakes_5 : decode cX3_allStakes 5 = .ok (.aload_n 0, 1) := by decide +kernel
theorem dX3_allStakes_6 : decode cX3_allStakes 6 = .ok (.getfield 51, 3) := by decide +kernel
theorem dX3_allStakes_9 : decode cX3_allStakes 9 = .ok (.if_icmp .ge 18, 3) := by decide +kernel
theorem dX3_allStakes_12 : decode cX3_allStakes 12 = .ok (.iload_n 1, 1) := by decide +kernel
theorem dX3_allStakes_13 : decode cX3_allStakes 13 = .ok (.aload_n 0, 1) := by decide +kernel
theorem dX3_allStakes_14 : decode cX3_allStakes 14 = .ok (.getfield 35, 3) := by decide +kernel
theorem dX3_allStakes_17 : decode cX3_allStakes 17 = .ok (.iload_n 2, 1) := by decide +kernel
theorem dX3_allStakes_18 : decode cX3_allStakes 18 = .ok (.iaload, 1) := by decide +kernel
theorem dX3_allStakes_19 : decode cX3_allStakes 19 = .ok (.iadd, 1) := by decide +kernel
theorem dX3_allStakes_20 : decode cX3_allStakes 20 = .ok (.istore_n 1, 1) := by decide +kernel
theorem dX3_allStakes_21 : decode cX3_allStakes 21 = .ok (.iinc 2 1, 3) := by decide +kernel
theorem dX3_allStakes_24 : decode cX3_allStakes 24 = .ok (.goto (-20), 3) := by decide +kernel
theorem dX3_allStakes_27 : decode cX3_allStakes 27 = .ok (.iload_n 1, 1) := by decide +kernel
theorem dX3_allStakes_28 : decode cX3_allStakes 28 = .ok (.ireturn, 1) := by decide +kernel
theorem dX3_staked_0 : decode cX3_staked 0 = .ok (.aload_n 0, 1) := by decide +kernel
theorem dX3_staked_1 : decode cX3_staked 1 = .ok (.aload_n 0, 1) := by decide +kernel
theorem dX3_staked_2 : decode cX3_staked 2 = .ok (.invokevirtual 137, 3) := by decide +kernel
theorem dX3_staked_5 : decode cX3_staked 5 = .ok (.invokevirtual 108, 3) := by decide +kernel
theorem dX3_staked_8 : decode cX3_staked 8 = .ok (.ireturn, 1) := by decide +kernel
theorem dX3_edgeTop_0 : decode cX3_edgeTop 0 = .ok (.aload_n 0, 1) := by decide +kernel
theorem dX3_edgeTop_1 : decode cX3_edgeTop 1 = .ok (.iconst 0, 1) := by decide +kernel
theorem dX3_edgeTop_2 : decode cX3_edgeTop 2 = .ok (.putfield 48, 3) := by decide +kernel
theorem dX3_edgeTop_5 : decode cX3_edgeTop 5 = .ok (.aload_n 0, 1) := by decide +kernel
theorem dX3_edgeTop_6 : decode cX3_edgeTop 6 = .ok (.iload_n 1, 1) := by decide +kernel
theorem dX3_edgeTop_7 : decode cX3_edgeTop 7 = .ok (.invokevirtual 121, 3) := by decide +kernel
theorem dX3_edgeTop_10 : decode cX3_edgeTop 10 = .ok (.ifCond .eq 15, 3) := by decide +kernel
theorem dX3_edgeTop_13 : decode cX3_edgeTop 13 = .ok (.aload_n 0, 1) := by decide +kernel
theorem dX3_edgeTop_14 : decode cX3_edgeTop 14 = .ok (.aload_n 0, 1) := by decide +kernel
theorem dX3_edgeTop_15 : decode cX3_edgeTop 15 = .ok (.iload_n 1, 1) := by decide +kernel
theorem dX3_edgeTop_16 : decode cX3_edgeTop 16 = .ok (.invokevirtual 83, 3) := by decide +kernel
theorem dX3_edgeTop_19 : decode cX3_edgeTop 19 = .ok (.invokevirtual 141, 3) := by decide +kernel
theorem dX3_edgeTop_22 : decode cX3_edgeTop 22 = .ok (.goto 8, 3) := by decide +kernel
theorem dX3_edgeTop_25 : decode cX3_edgeTop 25 = .ok (.aload_n 0, 1) := by decide +kernel
theorem dX3_edgeTop_26 : decode cX3_edgeTop 26 = .ok (.iconst 1, 1) := by decide +kernel
theorem dX3_edgeTop_27 : decode cX3_edgeTop 27 = .ok (.invokevirtual 102, 3) := by decide +kernel
theorem dX3_edgeTop_30 : decode cX3_edgeTop 30 = .ok (.ireturn, 1) := by decide +kernel
theorem dX3_edgeBottom_0 : decode cX3_edgeBottom 0 = .ok (.aload_n 0, 1) := by decide +kernel
theorem dX3_edgeBottom_1 : decode cX3_edgeBottom 1 = .ok (.iconst 0, 1) := by decide +kernel
theorem dX3_edgeBottom_2 : decode cX3_edgeBottom 2 = .ok (.putfield 48, 3) := by decide +kernel
theorem dX3_edgeBottom_5 : decode cX3_edgeBottom 5 = .ok (.aload_n 0, 1) := by decide +kernel
theorem dX3_edgeBottom_6 : decode cX3_edgeBottom 6 = .ok (.iload_n 1, 1) := by decide +kernel
theorem dX3_edgeBottom_7 : decode cX3_edgeBottom 7 = .ok (.invokevirtual 121, 3) := by decide +kernel
theorem dX3_edgeBottom_10 : decode cX3_edgeBottom 10 = .ok (.ifCond .eq 15, 3) := by decide +kernel
theorem dX3_edgeBottom_13 : decode cX3_edgeBottom 13 = .ok (.aload_n 0, 1) := by decide +kernel
theorem dX3_edgeBottom_14 : decode cX3_edgeBottom 14 = .ok (.aload_n 0, 1) := by decide +kernel
theorem dX3_edgeBottom_15 : decode cX3_edgeBottom 15 = .ok (.iload_n 1, 1) := by decide +kernel
theorem dX3_edgeBottom_16 : decode cX3_edgeBottom 16 = .ok (.invokevirtual 83, 3) := by decide +kernel
theorem dX3_edgeBottom_19 : decode cX3_edgeBottom 19 = .ok (.invokevirtual 144, 3) := by decide +kernel
theorem dX3_edgeBottom_22 : decode cX3_edgeBottom 22 = .ok (.goto 8, 3) := by decide +kernel
theorem dX3_edgeBottom_25 : decode cX3_edgeBottom 25 = .ok (.aload_n 0, 1) := by decide +kernel
theorem dX3_edgeBottom_26 : decode cX3_edgeBottom 26 = .ok (.iconst 1, 1) := by decide +kernel
theorem dX3_edgeBottom_27 : decode cX3_edgeBottom 27 = .ok (.invokevirtual 102, 3) := by decide +kernel
theorem dX3_edgeBottom_30 : decode cX3_edgeBottom 30 = .ok (.ireturn, 1) := by decide +kernel
theorem dX3_allEdgesTop_0 : decode cX3_allEdgesTop 0 = .ok (.aload_n 0, 1) := by decide +kernel
theorem dX3_allEdgesTop_1 : decode cX3_allEdgesTop 1 = .ok (.aload_n 0, 1) := by decide +kernel
theorem dX3_allEdgesTop_2 : decode cX3_allEdgesTop 2 = .ok (.aload_n 0, 1) := by decide +kernel
theorem dX3_allEdgesTop_3 : decode cX3_allEdgesTop 3 = .ok (.invokevirtual 147, 3) := by decide +kernel
theorem dX3_allEdgesTop_6 : decode cX3_allEdgesTop 6 = .ok (.invokevirtual 141, 3) := by decide +kernel
theorem dX3_allEdgesTop_9 : decode cX3_allEdgesTop 9 = .ok (.invokevirtual 108, 3) := by decide +kernel
theorem dX3_allEdgesTop_12 : decode cX3_allEdgesTop 12 = .ok (.ireturn, 1) := by decide +kernel
theorem dX3_allEdgesBottom_0 : decode cX3_allEdgesBottom 0 = .ok (.aload_n 0, 1) := by decide +kernel
theorem dX3_allEdgesBottom_1 : decode cX3_allEdgesBottom 1 = .ok (.aload_n 0, 1) := by decide +kernel
theorem dX3_allEdgesBottom_2 : decode cX3_allEdgesBottom 2 = .ok (.aload_n 0, 1) := by decide +kernel
theorem dX3_allEdgesBottom_3 : decode cX3_allEdgesBottom 3 = .ok (.invokevirtual 147, 3) := by decide +kernel
theorem dX3_allEdgesBottom_6 : decode cX3_allEdgesBottom 6 = .ok (.invokevirtual 144, 3) := by decide +kernel
theorem dX3_allEdgesBottom_9 : decode cX3_allEdgesBottom 9 = .ok (.invokevirtual 108, 3) := by decide +kernel
theorem dX3_allEdgesBottom_12 : decode cX3_allEdgesBottom 12 = .ok (.ireturn, 1) := by decide +kernel
theorem dX3_dearestWager_0 : decode cX3_dearestWager 0 = .ok (.aload_n 0, 1) := by decide +kernel
theorem dX3_dearestWager_1 : decode cX3_dearestWager 1 = .ok (.aload_n 0, 1) := by decide +kernel
theorem dX3_dearestWager_2 : decode cX3_dearestWager 2 = .ok (.invokevirtual 150, 3) := by decide +kernel
theorem dX3_dearestWager_5 : decode cX3_dearestWager 5 = .ok (.invokevirtual 108, 3) := by decide +kernel
theorem dX3_dearestWager_8 : decode cX3_dearestWager 8 = .ok (.ireturn, 1) := by decide +kernel
theorem dX3_gainAt_0 : decode cX3_gainAt 0 = .ok (.aload_n 0, 1) := by decide +kernel
theorem dX3_gainAt_1 : decode cX3_gainAt 1 = .ok (.iconst 0, 1) := by decide +kernel
theorem dX3_gainAt_2 : decode cX3_gainAt 2 = .ok (.putfield 48, 3) := by decide +kernel
theorem dX3_gainAt_5 : decode cX3_gainAt 5 = .ok (.aload_n 0, 1) := by decide +kernel
theorem dX3_gainAt_6 : decode cX3_gainAt 6 = .ok (.iload_n 1, 1) := by decide +kernel
theorem dX3_gainAt_7 : decode cX3_gainAt 7 = .ok (.invokevirtual 111, 3) := by decide +kernel
theorem dX3_gainAt_10 : decode cX3_gainAt 10 = .ok (.ifCond .eq 11, 3) := by decide +kernel
theorem dX3_gainAt_13 : decode cX3_gainAt 13 = .ok (.aload_n 0, 1) := by decide +kernel
theorem dX3_gainAt_14 : decode cX3_gainAt 14 = .ok (.iload_n 1, 1) := by decide +kernel
theorem dX3_gainAt_15 : decode cX3_gainAt 15 = .ok (.invokevirtual 92, 3) := by decide +kernel
theorem dX3_gainAt_18 : decode cX3_gainAt 18 = .ok (.goto 8, 3) := by decide +kernel
theorem dX3_gainAt_21 : decode cX3_gainAt 21 = .ok (.aload_n 0, 1) := by decide +kernel
theorem dX3_gainAt_22 : decode cX3_gainAt 22 = .ok (.iconst 1, 1) := by decide +kernel
theorem dX3_gainAt_23 : decode cX3_gainAt 23 = .ok (.invokevirtual 102, 3) := by decide +kernel
theorem dX3_gainAt_26 : decode cX3_gainAt 26 = .ok (.ireturn, 1) := by decide +kernel
theorem dX3_worstGain_0 : decode cX3_worstGain 0 = .ok (.aload_n 0, 1) := by decide +kernel
theorem dX3_worstGain_1 : decode cX3_worstGain 1 = .ok (.aload_n 0, 1) := by decide +kernel
theorem dX3_worstGain_2 : decode cX3_worstGain 2 = .ok (.aload_n 0, 1) := by decide +kernel
theorem dX3_worstGain_3 : decode cX3_worstGain 3 = .ok (.invokevirtual 153, 3) := by decide +kernel
theorem dX3_worstGain_6 : decode cX3_worstGain 6 = .ok (.invokevirtual 92, 3) := by decide +kernel
theorem dX3_worstGain_9 : decode cX3_worstGain 9 = .ok (.invokevirtual 108, 3) := by decide +kernel
theorem dX3_worstGain_12 : decode cX3_worstGain 12 = .ok (.ireturn, 1) := by decide +kernel
theorem dX3_worstOutcome_0 : decode cX3_worstOutcome 0 = .ok (.aload_n 0, 1) := by decide +kernel
theorem dX3_worstOutcome_1 : decode cX3_worstOutcome 1 = .ok (.aload_n 0, 1) := by decide +kernel
theorem dX3_worstOutcome_2 : decode cX3_worstOutcome 2 = .ok (.invokevirtual 153, 3) := by decide +kernel
theorem dX3_worstOutcome_5 : decode cX3_worstOutcome 5 = .ok (.invokevirtual 108, 3) := by decide +kernel
theorem dX3_worstOutcome_8 : decode cX3_worstOutcome 8 = .ok (.ireturn, 1) := by decide +kernel
theorem dX3_purseAt_0 : decode cX3_purseAt 0 = .ok (.aload_n 0, 1) := by decide +kernel
theorem dX3_purseAt_1 : decode cX3_purseAt 1 = .ok (.iconst 0, 1) := by decide +kernel
theorem dX3_purseAt_2 : decode cX3_purseAt 2 = .ok (.putfield 48, 3) := by decide +kernel
theorem dX3_purseAt_5 : decode cX3_purseAt 5 = .ok (.iload_n 1, 1) := by decide +kernel
theorem dX3_purseAt_6 : decode cX3_purseAt 6 = .ok (.invokestatic 118, 3) := by decide +kernel
theorem dX3_purseAt_9 : decode cX3_purseAt 9 = .ok (.ifCond .eq 20, 3) := by decide +kernel
theorem dX3_purseAt_12 : decode cX3_purseAt 12 = .ok (.aload_n 0, 1) := by decide +kernel
theorem dX3_purseAt_13 : decode cX3_purseAt 13 = .ok (.iload_n 2, 1) := by decide +kernel
theorem dX3_purseAt_14 : decode cX3_purseAt 14 = .ok (.invokevirtual 111, 3) := by decide +kernel
theorem dX3_purseAt_17 : decode cX3_purseAt 17 = .ok (.ifCond .eq 12, 3) := by decide +kernel
theorem dX3_purseAt_20 : decode cX3_purseAt 20 = .ok (.aload_n 0, 1) := by decide +kernel
theorem dX3_purseAt_21 : decode cX3_purseAt 21 = .ok (.iload_n 1, 1) := by decide +kernel
theorem dX3_purseAt_22 : decode cX3_purseAt 22 = .ok (.iload_n 2, 1) := by decide +kernel
theorem dX3_purseAt_23 : decode cX3_purseAt 23 = .ok (.invokevirtual 95, 3) := by decide +kernel
theorem dX3_purseAt_26 : decode cX3_purseAt 26 = .ok (.goto 8, 3) := by decide +kernel
theorem dX3_purseAt_29 : decode cX3_purseAt 29 = .ok (.aload_n 0, 1) := by decide +kernel
theorem dX3_purseAt_30 : decode cX3_purseAt 30 = .ok (.iconst 1, 1) := by decide +kernel
theorem dX3_purseAt_31 : decode cX3_purseAt 31 = .ok (.invokevirtual 102, 3) := by decide +kernel
theorem dX3_purseAt_34 : decode cX3_purseAt 34 = .ok (.ireturn, 1) := by decide +kernel
theorem dX3_leastPurse_0 : decode cX3_leastPurse 0 = .ok (.aload_n 0, 1) := by decide +kernel
theorem dX3_leastPurse_1 : decode cX3_leastPurse 1 = .ok (.iconst 0, 1) := by decide +kernel
theorem dX3_leastPurse_2 : decode cX3_leastPurse 2 = .ok (.putfield 48, 3) := by decide +kernel
theorem dX3_leastPurse_5 : decode cX3_leastPurse 5 = .ok (.iload_n 1, 1) := by decide +kernel
theorem dX3_leastPurse_6 : decode cX3_leastPurse 6 = .ok (.invokestatic 118, 3) := by decide +kernel
theorem dX3_leastPurse_9 : decode cX3_leastPurse 9 = .ok (.ifCond .eq 11, 3) := by decide +kernel
theorem dX3_leastPurse_12 : decode cX3_leastPurse 12 = .ok (.aload_n 0, 1) := by decide +kernel
theorem dX3_leastPurse_13 : decode cX3_leastPurse 13 = .ok (.iload_n 1, 1) := by decide +kernel
theorem dX3_leastPurse_14 : decode cX3_leastPurse 14 = .ok (.invokevirtual 156, 3) := by decide +kernel
theorem dX3_leastPurse_17 : decode cX3_leastPurse 17 = .ok (.goto 8, 3) := by decide +kernel
theorem dX3_leastPurse_20 : decode cX3_leastPurse 20 = .ok (.aload_n 0, 1) := by decide +kernel
theorem dX3_leastPurse_21 : decode cX3_leastPurse 21 = .ok (.iconst 1, 1) := by decide +kernel
theorem dX3_leastPurse_22 : decode cX3_leastPurse 22 = .ok (.invokevirtual 102, 3) := by decide +kernel
theorem dX3_leastPurse_25 : decode cX3_leastPurse 25 = .ok (.ireturn, 1) := by decide +kernel
theorem dX3_isHedged_0 : decode cX3_isHedged 0 = .ok (.aload_n 0, 1) := by decide +kernel
theorem dX3_isHedged_1 : decode cX3_isHedged 1 = .ok (.iload_n 1, 1) := by decide +kernel
theorem dX3_isHedged_2 : decode cX3_isHedged 2 = .ok (.invokestatic 118, 3) := by decide +kernel
theorem dX3_isHedged_5 : decode cX3_isHedged 5 = .ok (.ifCond .eq 7, 3) := by decide +kernel
theorem dX3_isHedged_8 : decode cX3_isHedged 8 = .ok (.iconst 0, 1) := by decide +kernel
theorem dX3_isHedged_9 : decode cX3_isHedged 9 = .ok (.goto 4, 3) := by decide +kernel
theorem dX3_isHedged_12 : decode cX3_isHedged 12 = .ok (.iconst 1, 1) := by decide +kernel
theorem dX3_isHedged_13 : decode cX3_isHedged 13 = .ok (.putfield 48, 3) := by decide +kernel
theorem dX3_isHedged_16 : decode cX3_isHedged 16 = .ok (.aload_n 0, 1) := by decide +kernel
theorem dX3_isHedged_17 : decode cX3_isHedged 17 = .ok (.getfield 48, 3) := by decide +kernel
theorem dX3_isHedged_20 : decode cX3_isHedged 20 = .ok (.ifCond .ne 15, 3) := by decide +kernel
theorem dX3_isHedged_23 : decode cX3_isHedged 23 = .ok (.aload_n 0, 1) := by decide +kernel
theorem dX3_isHedged_24 : decode cX3_isHedged 24 = .ok (.iload_n 1, 1) := by decide +kernel
theorem dX3_isHedged_25 : decode cX3_isHedged 25 = .ok (.invokevirtual 159, 3) := by decide +kernel
theorem dX3_isHedged_28 : decode cX3_isHedged 28 = .ok (.ifCond .eq 7, 3) := by decide +kernel
theorem dX3_isHedged_31 : decode cX3_isHedged 31 = .ok (.iconst 1, 1) := by decide +kernel
theorem dX3_isHedged_32 : decode cX3_isHedged 32 = .ok (.goto 4, 3) := by decide +kernel
theorem dX3_isHedged_35 : decode cX3_isHedged 35 = .ok (.iconst 0, 1) := by decide +kernel
theorem dX3_isHedged_36 : decode cX3_isHedged 36 = .ok (.ireturn, 1) := by decide +kernel
theorem dX3_hedgeFor_0 : decode cX3_hedgeFor 0 = .ok (.aload_n 0, 1) := by decide +kernel
theorem dX3_hedgeFor_1 : decode cX3_hedgeFor 1 = .ok (.iconst 0, 1) := by decide +kernel
theorem dX3_hedgeFor_2 : decode cX3_hedgeFor 2 = .ok (.putfield 48, 3) := by decide +kernel
theorem dX3_hedgeFor_5 : decode cX3_hedgeFor 5 = .ok (.aload_n 0, 1) := by decide +kernel
theorem dX3_hedgeFor_6 : decode cX3_hedgeFor 6 = .ok (.iload_n 1, 1) := by decide +kernel
theorem dX3_hedgeFor_7 : decode cX3_hedgeFor 7 = .ok (.invokevirtual 121, 3) := by decide +kernel
theorem dX3_hedgeFor_10 : decode cX3_hedgeFor 10 = .ok (.ifCond .ne 9, 3) := by decide +kernel
theorem dX3_hedgeFor_13 : decode cX3_hedgeFor 13 = .ok (.aload_n 0, 1) := by decide +kernel
theorem dX3_hedgeFor_14 : decode cX3_hedgeFor 14 = .ok (.iconst 1, 1) := by decide +kernel
theorem dX3_hedgeFor_15 : decode cX3_hedgeFor 15 = .ok (.invokevirtual 102, 3) := by decide +kernel
theorem dX3_hedgeFor_18 : decode cX3_hedgeFor 18 = .ok (.ireturn, 1) := by decide +kernel
theorem dX3_hedgeFor_19 : decode cX3_hedgeFor 19 = .ok (.iload_n 2, 1) := by decide +kernel
theorem dX3_hedgeFor_20 : decode cX3_hedgeFor 20 = .ok (.iconst 1, 1) := by decide +kernel
theorem dX3_hedgeFor_21 : decode cX3_hedgeFor 21 = .ok (.bipush 20, 2) := by decide +kernel
theorem dX3_hedgeFor_23 : decode cX3_hedgeFor 23 = .ok (.invokestatic 54, 3) := by decide +kernel
theorem dX3_hedgeFor_26 : decode cX3_hedgeFor 26 = .ok (.ifCond .eq 35, 3) := by decide +kernel
theorem dX3_hedgeFor_29 : decode cX3_hedgeFor 29 = .ok (.iload_n 3, 1) := by decide +kernel
theorem dX3_hedgeFor_30 : decode cX3_hedgeFor 30 = .ok (.iconst 1, 1) := by decide +kernel
theorem dX3_hedgeFor_31 : decode cX3_hedgeFor 31 = .ok (.bipush 10, 2) := by decide +kernel
theorem dX3_hedgeFor_33 : decode cX3_hedgeFor 33 = .ok (.invokestatic 54, 3) := by decide +kernel
theorem dX3_hedgeFor_36 : decode cX3_hedgeFor 36 = .ok (.ifCond .eq 25, 3) := by decide +kernel
theorem dX3_hedgeFor_39 : decode cX3_hedgeFor 39 = .ok (.aload_n 0, 1) := by decide +kernel
theorem dX3_hedgeFor_40 : decode cX3_hedgeFor 40 = .ok (.aload_n 0, 1) := by decide +kernel
theorem dX3_hedgeFor_41 : decode cX3_hedgeFor 41 = .ok (.getfield 35, 3) := by decide +kernel
theorem dX3_hedgeFor_44 : decode cX3_hedgeFor 44 = .ok (.iload_n 1, 1) := by decide +kernel
theorem dX3_hedgeFor_45 : decode cX3_hedgeFor 45 = .ok (.iaload, 1) := by decide +kernel
theorem dX3_hedgeFor_46 : decode cX3_hedgeFor 46 = .ok (.aload_n 0, 1) := by decide +kernel
theorem dX3_hedgeFor_47 : decode cX3_hedgeFor 47 = .ok (.getfield 38, 3) := by decide +kernel
theorem dX3_hedgeFor_50 : decode cX3_hedgeFor 50 = .ok (.iload_n 1, 1) := by decide +kernel
theorem dX3_hedgeFor_51 : decode cX3_hedgeFor 51 = .ok (.iaload, 1) := by decide +kernel
theorem dX3_hedgeFor_52 : decode cX3_hedgeFor 52 = .ok (.iadd, 1) := by decide +kernel
theorem dX3_hedgeFor_53 : decode cX3_hedgeFor 53 = .ok (.iload_n 2, 1) := by decide +kernel
theorem dX3_hedgeFor_54 : decode cX3_hedgeFor 54 = .ok (.iload_n 3, 1) := by decide +kernel
theorem dX3_hedgeFor_55 : decode cX3_hedgeFor 55 = .ok (.invokevirtual 162, 3) := by decide +kernel
theorem dX3_hedgeFor_58 : decode cX3_hedgeFor 58 = .ok (.goto 8, 3) := by decide +kernel
theorem dX3_hedgeFor_61 : decode cX3_hedgeFor 61 = .ok (.aload_n 0, 1) := by decide +kernel
theorem dX3_hedgeFor_62 : decode cX3_hedgeFor 62 = .ok (.iconst 2, 1) := by decide +kernel
theorem dX3_hedgeFor_63 : decode cX3_hedgeFor 63 = .ok (.invokevirtual 102, 3) := by decide +kernel
theorem dX3_hedgeFor_66 : decode cX3_hedgeFor 66 = .ok (.ireturn, 1) := by decide +kernel
theorem dX3_fairWin_0 : decode cX3_fairWin 0 = .ok (.aload_n 0, 1) := by decide +kernel
theorem dX3_fairWin_1 : decode cX3_fairWin 1 = .ok (.iconst 0, 1) := by decide +kernel
theorem dX3_fairWin_2 : decode cX3_fairWin 2 = .ok (.putfield 48, 3) := by decide +kernel
theorem dX3_fairWin_5 : decode cX3_fairWin 5 = .ok (.iload_n 1, 1) := by decide +kernel
theorem dX3_fairWin_6 : decode cX3_fairWin 6 = .ok (.iload_n 2, 1) := by decide +kernel
theorem dX3_fairWin_7 : decode cX3_fairWin 7 = .ok (.invokestatic 114, 3) := by decide +kernel
theorem dX3_fairWin_10 : decode cX3_fairWin 10 = .ok (.ifCond .eq 13, 3) := by decide +kernel
theorem dX3_fairWin_13 : decode cX3_fairWin 13 = .ok (.iload_n 3, 1) := by decide +kernel
theorem dX3_fairWin_14 : decode cX3_fairWin 14 = .ok (.iconst 1, 1) := by decide +kernel
theorem dX3_fairWin_15 : decode cX3_fairWin 15 = .ok (.bipush 10, 2) := by decide +kernel
theorem dX3_fairWin_17 : decode cX3_fairWin 17 = .ok (.invokestatic 54, 3) := by decide +kernel
theorem dX3_fairWin_20 : decode cX3_fairWin 20 = .ok (.ifCond .ne 9, 3) := by decide +kernel
theorem dX3_fairWin_23 : decode cX3_fairWin 23 = .ok (.aload_n 0, 1) := by decide +kernel
theorem dX3_fairWin_24 : decode cX3_fairWin 24 = .ok (.iconst 1, 1) := by decide +kernel
theorem dX3_fairWin_25 : decode cX3_fairWin 25 = .ok (.invokevirtual 102, 3) := by decide +kernel
theorem dX3_fairWin_28 : decode cX3_fairWin 28 = .ok (.ireturn, 1) := by decide +kernel
theorem dX3_fairWin_29 : decode cX3_fairWin 29 = .ok (.aload_n 0, 1) := by decide +kernel
theorem dX3_fairWin_30 : decode cX3_fairWin 30 = .ok (.iload_n 1, 1) := by decide +kernel
theorem dX3_fairWin_31 : decode cX3_fairWin 31 = .ok (.iload_n 2, 1) := by decide +kernel
theorem dX3_fairWin_32 : decode cX3_fairWin 32 = .ok (.invokevirtual 74, 3) := by decide +kernel
theorem dX3_fairWin_35 : decode cX3_fairWin 35 = .ok (.istore 4, 2) := by decide +kernel
theorem dX3_fairWin_37 : decode cX3_fairWin 37 = .ok (.bipush 20, 2) := by decide +kernel
theorem dX3_fairWin_39 : decode cX3_fairWin 39 = .ok (.istore 5, 2) := by decide +kernel
theorem dX3_fairWin_41 : decode cX3_fairWin 41 = .ok (.iload 5, 2) := by decide +kernel
theorem dX3_fairWin_43 : decode cX3_fairWin 43 = .ok (.ifCond .le 32, 3) := by decide +kernel
theorem dX3_fairWin_46 : decode cX3_fairWin 46 = .ok (.bipush 100, 2) := by decide +kernel
theorem dX3_fairWin_48 : decode cX3_fairWin 48 = .ok (.aload_n 0, 1) := by decide +kernel
theorem dX3_fairWin_49 : decode cX3_fairWin 49 = .ok (.getfield 17, 3) := by decide +kernel
theorem dX3_fairWin_52 : decode cX3_fairWin 52 = .ok (.iload 4, 2) := by decide +kernel
theorem dX3_fairWin_54 : decode cX3_fairWin 54 = .ok (.isub, 1) := by decide +kernel
theorem dX3_fairWin_55 : decode cX3_fairWin 55 = .ok (.imul, 1) := by decide +kernel
theorem dX3_fairWin_56 : decode cX3_fairWin 56 = .ok (.bipush 100, 2) := by decide +kernel
theorem dX3_fairWin_58 : decode cX3_fairWin 58 = .ok (.iload 5, 2) := by decide +kernel
theorem dX3_fairWin_60 : decode cX3_fairWin 60 = .ok (.imul, 1) := by decide +kernel
theorem dX3_fairWin_61 : decode cX3_fairWin 61 = .ok (.iload_n 3, 1) := by decide +kernel
theorem dX3_fairWin_62 : decode cX3_fairWin 62 = .ok (.idiv, 1) := by decide +kernel
theorem dX3_fairWin_63 : decode cX3_fairWin 63 = .ok (.iload 4, 2) := by decide +kernel
theorem dX3_fairWin_65 : decode cX3_fairWin 65 = .ok (.imul, 1) := by decide +kernel
theorem dX3_fairWin_66 : decode cX3_fairWin 66 = .ok (.if_icmp .ge 9, 3) := by decide +kernel
theorem dX3_fairWin_69 : decode cX3_fairWin 69 = .ok (.iinc 5 (-1), 3) := by decide +kernel
theorem dX3_fairWin_72 : decode cX3_fairWin 72 = .ok (.goto (-31), 3) := by decide +kernel
theorem dX3_fairWin_75 : decode cX3_fairWin 75 = .ok (.iload 5, 2) := by decide +kernel
theorem dX3_fairWin_77 : decode cX3_fairWin 77 = .ok (.ireturn, 1) := by decide +kernel
theorem dX3_digest_0 : decode cX3_digest 0 = .ok (.aload_n 0, 1) := by decide +kernel
theorem dX3_digest_1 : decode cX3_digest 1 = .ok (.iconst 0, 1) := by decide +kernel
theorem dX3_digest_2 : decode cX3_digest 2 = .ok (.putfield 48, 3) := by decide +kernel
theorem dX3_digest_5 : decode cX3_digest 5 = .ok (.aload_n 0, 1) := by decide +kernel
theorem dX3_digest_6 : decode cX3_digest 6 = .ok (.invokevirtual 153, 3) := by decide +kernel
theorem dX3_digest_9 : decode cX3_digest 9 = .ok (.istore_n 1, 1) := by decide +kernel
theorem dX3_digest_10 : decode cX3_digest 10 = .ok (.bipush 11, 2) := by decide +kernel
theorem dX3_digest_12 : decode cX3_digest 12 = .ok (.newarray .int, 2) := by decide +kernel
theorem dX3_digest_14 : decode cX3_digest 14 = .ok (.dup, 1) := by decide +kernel
theorem dX3_digest_15 : decode cX3_digest 15 = .ok (.iconst 0, 1) := by decide +kernel
theorem dX3_digest_16 : decode cX3_digest 16 = .ok (.aload_n 0, 1) := by decide +kernel
theorem dX3_digest_17 : decode cX3_digest 17 = .ok (.getfield 13, 3) := by decide +kernel
theorem dX3_digest_20 : decode cX3_digest 20 = .ok (.iastore, 1) := by decide +kernel
theorem dX3_digest_21 : decode cX3_digest 21 = .ok (.dup, 1) := by decide +kernel
theorem dX3_digest_22 : decode cX3_digest 22 = .ok (.iconst 1, 1) := by decide +kernel
theorem dX3_digest_23 : decode cX3_digest 23 = .ok (.aload_n 0, 1) := by decide +kernel
theorem dX3_digest_24 : decode cX3_digest 24 = .ok (.getfield 17, 3) := by decide +kernel
theorem dX3_digest_27 : decode cX3_digest 27 = .ok (.iastore, 1) := by decide +kernel
theorem dX3_digest_28 : decode cX3_digest 28 = .ok (.dup, 1) := by decide +kernel
theorem dX3_digest_29 : decode cX3_digest 29 = .ok (.iconst 2, 1) := by decide +kernel
theorem dX3_digest_30 : decode cX3_digest 30 = .ok (.aload_n 0, 1) := by decide +kernel
theorem dX3_digest_31 : decode cX3_digest 31 = .ok (.getfield 51, 3) := by decide +kernel
theorem dX3_digest_34 : decode cX3_digest 34 = .ok (.iastore, 1) := by decide +kernel
theorem dX3_digest_35 : decode cX3_digest 35 = .ok (.dup, 1) := by decide +kernel
theorem dX3_digest_36 : decode cX3_digest 36 = .ok (.iconst 3, 1) := by decide +kernel
theorem dX3_digest_37 : decode cX3_digest 37 = .ok (.aload_n 0, 1) := by decide +kernel
theorem dX3_digest_38 : decode cX3_digest 38 = .ok (.getfield 23, 3) := by decide +kernel
theorem dX3_digest_41 : decode cX3_digest 41 = .ok (.iastore, 1) := by decide +kernel
theorem dX3_digest_42 : decode cX3_digest 42 = .ok (.dup, 1) := by decide +kernel
theorem dX3_digest_43 : decode cX3_digest 43 = .ok (.iconst 4, 1) := by decide +kernel
theorem dX3_digest_44 : decode cX3_digest 44 = .ok (.aload_n 0, 1) := by decide +kernel
theorem dX3_digest_45 : decode cX3_digest 45 = .ok (.getfield 130, 3) := by decide +kernel
theorem dX3_digest_48 : decode cX3_digest 48 = .ok (.iastore, 1) := by decide +kernel
theorem dX3_digest_49 : decode cX3_digest 49 = .ok (.dup, 1) := by decide +kernel
theorem dX3_digest_50 : decode cX3_digest 50 = .ok (.iconst 5, 1) := by decide +kernel
theorem dX3_digest_51 : decode cX3_digest 51 = .ok (.aload_n 0, 1) := by decide +kernel
theorem dX3_digest_52 : decode cX3_digest 52 = .ok (.invokevirtual 137, 3) := by decide +kernel
theorem dX3_digest_55 : decode cX3_digest 55 = .ok (.iastore, 1) := by decide +kernel
theorem dX3_digest_56 : decode cX3_digest 56 = .ok (.dup, 1) := by decide +kernel
theorem dX3_digest_57 : decode cX3_digest 57 = .ok (.bipush 6, 2) := by decide +kernel
theorem dX3_digest_59 : decode cX3_digest 59 = .ok (.aload_n 0, 1) := by decide +kernel
theorem dX3_digest_60 : decode cX3_digest 60 = .ok (.aload_n 0, 1) := by decide +kernel
theorem dX3_digest_61 : decode cX3_digest 61 = .ok (.invokevirtual 147, 3) := by decide +kernel
theorem dX3_digest_64 : decode cX3_digest 64 = .ok (.invokevirtual 141, 3) := by decide +kernel
theorem dX3_digest_67 : decode cX3_digest 67 = .ok (.iastore, 1) := by decide +kernel
theorem dX3_digest_68 : decode cX3_digest 68 = .ok (.dup, 1) := by decide +kernel
theorem dX3_digest_69 : decode cX3_digest 69 = .ok (.bipush 7, 2) := by decide +kernel
theorem dX3_digest_71 : decode cX3_digest 71 = .ok (.aload_n 0, 1) := by decide +kernel
theorem dX3_digest_72 : decode cX3_digest 72 = .ok (.aload_n 0, 1) := by decide +kernel
theorem dX3_digest_73 : decode cX3_digest 73 = .ok (.invokevirtual 147, 3) := by decide +kernel
theorem dX3_digest_76 : decode cX3_digest 76 = .ok (.invokevirtual 144, 3) := by decide +kernel
theorem dX3_digest_79 : decode cX3_digest 79 = .ok (.iastore, 1) := by decide +kernel
theorem dX3_digest_80 : decode cX3_digest 80 = .ok (.dup, 1) := by decide +kernel
theorem dX3_digest_81 : decode cX3_digest 81 = .ok (.bipush 8, 2) := by decide +kernel
theorem dX3_digest_83 : decode cX3_digest 83 = .ok (.aload_n 0, 1) := by decide +kernel
theorem dX3_digest_84 : decode cX3_digest 84 = .ok (.invokevirtual 150, 3) := by decide +kernel
theorem dX3_digest_87 : decode cX3_digest 87 = .ok (.iastore, 1) := by decide +kernel
theorem dX3_digest_88 : decode cX3_digest 88 = .ok (.dup, 1) := by decide +kernel
theorem dX3_digest_89 : decode cX3_digest 89 = .ok (.bipush 9, 2) := by decide +kernel
theorem dX3_digest_91 : decode cX3_digest 91 = .ok (.aload_n 0, 1) := by decide +kernel
theorem dX3_digest_92 : decode cX3_digest 92 = .ok (.iload_n 1, 1) := by decide +kernel
theorem dX3_digest_93 : decode cX3_digest 93 = .ok (.invokevirtual 92, 3) := by decide +kernel
theorem dX3_digest_96 : decode cX3_digest 96 = .ok (.iastore, 1) := by decide +kernel
theorem dX3_digest_97 : decode cX3_digest 97 = .ok (.dup, 1) := by decide +kernel
theorem dX3_digest_98 : decode cX3_digest 98 = .ok (.bipush 10, 2) := by decide +kernel
theorem dX3_digest_100 : decode cX3_digest 100 = .ok (.iload_n 1, 1) := by decide +kernel
theorem dX3_digest_101 : decode cX3_digest 101 = .ok (.iastore, 1) := by decide +kernel
theorem dX3_digest_102 : decode cX3_digest 102 = .ok (.astore_n 2, 1) := by decide +kernel
theorem dX3_digest_103 : decode cX3_digest 103 = .ok (.ldc2_w 166, 3) := by decide +kernel
theorem dX3_digest_106 : decode cX3_digest 106 = .ok (.lstore_n 3, 1) := by decide +kernel
theorem dX3_digest_107 : decode cX3_digest 107 = .ok (.aload_n 2, 1) := by decide +kernel
theorem dX3_digest_108 : decode cX3_digest 108 = .ok (.astore 5, 2) := by decide +kernel
theorem dX3_digest_110 : decode cX3_digest 110 = .ok (.aload 5, 2) := by decide +kernel
theorem dX3_digest_112 : decode cX3_digest 112 = .ok (.arraylength, 1) := by decide +kernel
theorem dX3_digest_113 : decode cX3_digest 113 = .ok (.istore 6, 2) := by decide +kernel
theorem dX3_digest_115 : decode cX3_digest 115 = .ok (.iconst 0, 1) := by decide +kernel
theorem dX3_digest_116 : decode cX3_digest 116 = .ok (.istore 7, 2) := by decide +kernel
theorem dX3_digest_118 : decode cX3_digest 118 = .ok (.iload 7, 2) := by decide +kernel
theorem dX3_digest_120 : decode cX3_digest 120 = .ok (.iload 6, 2) := by decide +kernel
theorem dX3_digest_122 : decode cX3_digest 122 = .ok (.if_icmp .ge 26, 3) := by decide +kernel
theorem dX3_digest_125 : decode cX3_digest 125 = .ok (.aload 5, 2) := by decide +kernel
theorem dX3_digest_127 : decode cX3_digest 127 = .ok (.iload 7, 2) := by decide +kernel
theorem dX3_digest_129 : decode cX3_digest 129 = .ok (.iaload, 1) := by decide +kernel
theorem dX3_digest_130 : decode cX3_digest 130 = .ok (.istore 8, 2) := by decide +kernel
theorem dX3_digest_132 : decode cX3_digest 132 = .ok (.lload_n 3, 1) := by decide +kernel
theorem dX3_digest_133 : decode cX3_digest 133 = .ok (.ldc2_w 168, 3) := by decide +kernel
theorem dX3_digest_136 : decode cX3_digest 136 = .ok (.lmul, 1) := by decide +kernel
theorem dX3_digest_137 : decode cX3_digest 137 = .ok (.iload 8, 2) := by decide +kernel
theorem dX3_digest_139 : decode cX3_digest 139 = .ok (.i2l, 1) := by decide +kernel
theorem dX3_digest_140 : decode cX3_digest 140 = .ok (.ladd, 1) := by decide +kernel
theorem dX3_digest_141 : decode cX3_digest 141 = .ok (.lstore_n 3, 1) := by decide +kernel
theorem dX3_digest_142 : decode cX3_digest 142 = .ok (.iinc 7 1, 3) := by decide +kernel
theorem dX3_digest_145 : decode cX3_digest 145 = .ok (.goto (-27), 3) := by decide +kernel
theorem dX3_digest_148 : decode cX3_digest 148 = .ok (.iconst 0, 1) := by decide +kernel
theorem dX3_digest_149 : decode cX3_digest 149 = .ok (.istore 5, 2) := by decide +kernel
theorem dX3_digest_151 : decode cX3_digest 151 = .ok (.iload 5, 2) := by decide +kernel
theorem dX3_digest_153 : decode cX3_digest 153 = .ok (.aload_n 0, 1) := by decide +kernel
theorem dX3_digest_154 : decode cX3_digest 154 = .ok (.getfield 51, 3) := by decide +kernel
theorem dX3_digest_157 : decode cX3_digest 157 = .ok (.if_icmp .ge 84, 3) := by decide +kernel
theorem dX3_digest_160 : decode cX3_digest 160 = .ok (.aload_n 0, 1) := by decide +kernel
theorem dX3_digest_161 : decode cX3_digest 161 = .ok (.iload 5, 2) := by decide +kernel
theorem dX3_digest_163 : decode cX3_digest 163 = .ok (.invokevirtual 83, 3) := by decide +kernel
theorem dX3_digest_166 : decode cX3_digest 166 = .ok (.istore 6, 2) := by decide +kernel
theorem dX3_digest_168 : decode cX3_digest 168 = .ok (.lload_n 3, 1) := by decide +kernel
theorem dX3_digest_169 : decode cX3_digest 169 = .ok (.ldc2_w 168, 3) := by decide +kernel
theorem dX3_digest_172 : decode cX3_digest 172 = .ok (.lmul, 1) := by decide +kernel
theorem dX3_digest_173 : decode cX3_digest 173 = .ok (.aload_n 0, 1) := by decide +kernel
theorem dX3_digest_174 : decode cX3_digest 174 = .ok (.getfield 26, 3) := by decide +kernel
theorem dX3_digest_177 : decode cX3_digest 177 = .ok (.iload 5, 2) := by decide +kernel
theorem dX3_digest_179 : decode cX3_digest 179 = .ok (.iaload, 1) := by decide +kernel
theorem dX3_digest_180 : decode cX3_digest 180 = .ok (.i2l, 1) := by decide +kernel
theorem dX3_digest_181 : decode cX3_digest 181 = .ok (.ladd, 1) := by decide +kernel
theorem dX3_digest_182 : decode cX3_digest 182 = .ok (.ldc2_w 168, 3) := by decide +kernel
theorem dX3_digest_185 : decode cX3_digest 185 = .ok (.lmul, 1) := by decide +kernel
theorem dX3_digest_186 : decode cX3_digest 186 = .ok (.aload_n 0, 1) := by decide +kernel
theorem dX3_digest_187 : decode cX3_digest 187 = .ok (.getfield 35, 3) := by decide +kernel
theorem dX3_digest_190 : decode cX3_digest 190 = .ok (.iload 5, 2) := by decide +kernel
theorem dX3_digest_192 : decode cX3_digest 192 = .ok (.iaload, 1) := by decide +kernel
theorem dX3_digest_193 : decode cX3_digest 193 = .ok (.i2l, 1) := by decide +kernel
theorem dX3_digest_194 : decode cX3_digest 194 = .ok (.ladd, 1) := by decide +kernel
theorem dX3_digest_195 : decode cX3_digest 195 = .ok (.ldc2_w 168, 3) := by decide +kernel
theorem dX3_digest_198 : decode cX3_digest 198 = .ok (.lmul, 1) := by decide +kernel
theorem dX3_digest_199 : decode cX3_digest 199 = .ok (.aload_n 0, 1) := by decide +kernel
theorem dX3_digest_200 : decode cX3_digest 200 = .ok (.getfield 38, 3) := by decide +kernel
theorem dX3_digest_203 : decode cX3_digest 203 = .ok (.iload 5, 2) := by decide +kernel
theorem dX3_digest_205 : decode cX3_digest 205 = .ok (.iaload, 1) := by decide +kernel
theorem dX3_digest_206 : decode cX3_digest 206 = .ok (.i2l, 1) := by decide +kernel
theorem dX3_digest_207 : decode cX3_digest 207 = .ok (.ladd, 1) := by decide +kernel
theorem dX3_digest_208 : decode cX3_digest 208 = .ok (.lstore_n 3, 1) := by decide +kernel
theorem dX3_digest_209 : decode cX3_digest 209 = .ok (.lload_n 3, 1) := by decide +kernel
theorem dX3_digest_210 : decode cX3_digest 210 = .ok (.ldc2_w 168, 3) := by decide +kernel
theorem dX3_digest_213 : decode cX3_digest 213 = .ok (.lmul, 1) := by decide +kernel
theorem dX3_digest_214 : decode cX3_digest 214 = .ok (.aload_n 0, 1) := by decide +kernel
theorem dX3_digest_215 : decode cX3_digest 215 = .ok (.iload 6, 2) := by decide +kernel
theorem dX3_digest_217 : decode cX3_digest 217 = .ok (.invokevirtual 141, 3) := by decide +kernel
theorem dX3_digest_220 : decode cX3_digest 220 = .ok (.i2l, 1) := by decide +kernel
theorem dX3_digest_221 : decode cX3_digest 221 = .ok (.ladd, 1) := by decide +kernel
theorem dX3_digest_222 : decode cX3_digest 222 = .ok (.ldc2_w 168, 3) := by decide +kernel
theorem dX3_digest_225 : decode cX3_digest 225 = .ok (.lmul, 1) := by decide +kernel
theorem dX3_digest_226 : decode cX3_digest 226 = .ok (.aload_n 0, 1) := by decide +kernel
theorem dX3_digest_227 : decode cX3_digest 227 = .ok (.iload 6, 2) := by decide +kernel
theorem dX3_digest_229 : decode cX3_digest 229 = .ok (.invokevirtual 144, 3) := by decide +kernel
theorem dX3_digest_232 : decode cX3_digest 232 = .ok (.i2l, 1) := by decide +kernel
theorem dX3_digest_233 : decode cX3_digest 233 = .ok (.ladd, 1) := by decide +kernel
theorem dX3_digest_234 : decode cX3_digest 234 = .ok (.lstore_n 3, 1) := by decide +kernel
theorem dX3_digest_235 : decode cX3_digest 235 = .ok (.iinc 5 1, 3) := by decide +kernel
theorem dX3_digest_238 : decode cX3_digest 238 = .ok (.goto (-87), 3) := by decide +kernel
theorem dX3_digest_241 : decode cX3_digest 241 = .ok (.iconst 0, 1) := by decide +kernel
theorem dX3_digest_242 : decode cX3_digest 242 = .ok (.istore 5, 2) := by decide +kernel
theorem dX3_digest_244 : decode cX3_digest 244 = .ok (.iload 5, 2) := by decide +kernel
theorem dX3_digest_246 : decode cX3_digest 246 = .ok (.bipush 6, 2) := by decide +kernel
theorem dX3_digest_248 : decode cX3_digest 248 = .ok (.if_icmp .ge 56, 3) := by decide +kernel
theorem dX3_digest_251 : decode cX3_digest 251 = .ok (.lload_n 3, 1) := by decide +kernel
theorem dX3_digest_252 : decode cX3_digest 252 = .ok (.ldc2_w 168, 3) := by decide +kernel
theorem dX3_digest_255 : decode cX3_digest 255 = .ok (.lmul, 1) := by decide +kernel
theorem dX3_digest_256 : decode cX3_digest 256 = .ok (.aload_n 0, 1) := by decide +kernel
theorem dX3_digest_257 : decode cX3_digest 257 = .ok (.getfield 20, 3) := by decide +kernel
theorem dX3_digest_260 : decode cX3_digest 260 = .ok (.iload 5, 2) := by decide +kernel
theorem dX3_digest_262 : decode cX3_digest 262 = .ok (.iaload, 1) := by decide +kernel
theorem dX3_digest_263 : decode cX3_digest 263 = .ok (.i2l, 1) := by decide +kernel
theorem dX3_digest_264 : decode cX3_digest 264 = .ok (.ladd, 1) := by decide +kernel
theorem dX3_digest_265 : decode cX3_digest 265 = .ok (.ldc2_w 168, 3) := by decide +kernel
theorem dX3_digest_268 : decode cX3_digest 268 = .ok (.lmul, 1) := by decide +kernel
theorem dX3_digest_269 : decode cX3_digest 269 = .ok (.aload_n 0, 1) := by decide +kernel
theorem dX3_digest_270 : decode cX3_digest 270 = .ok (.iload 5, 2) := by decide +kernel
theorem dX3_digest_272 : decode cX3_digest 272 = .ok (.invokevirtual 156, 3) := by decide +kernel
theorem dX3_digest_275 : decode cX3_digest 275 = .ok (.i2l, 1) := by decide +kernel
theorem dX3_digest_276 : decode cX3_digest 276 = .ok (.ladd, 1) := by decide +kernel
theorem dX3_digest_277 : decode cX3_digest 277 = .ok (.ldc2_w 168, 3) := by decide +kernel
theorem dX3_digest_280 : decode cX3_digest 280 = .ok (.lmul, 1) := by decide +kernel
theorem dX3_digest_281 : decode cX3_digest 281 = .ok (.aload_n 0, 1) := by decide +kernel
theorem dX3_digest_282 : decode cX3_digest 282 = .ok (.iload 5, 2) := by decide +kernel
theorem dX3_digest_284 : decode cX3_digest 284 = .ok (.invokevirtual 159, 3) := by decide +kernel
theorem dX3_digest_287 : decode cX3_digest 287 = .ok (.ifCond .eq 7, 3) := by decide +kernel
theorem dX3_digest_290 : decode cX3_digest 290 = .ok (.iconst 1, 1) := by decide +kernel
theorem dX3_digest_291 : decode cX3_digest 291 = .ok (.goto 4, 3) := by decide +kernel
theorem dX3_digest_294 : decode cX3_digest 294 = .ok (.iconst 0, 1) := by decide +kernel
theorem dX3_digest_295 : decode cX3_digest 295 = .ok (.i2l, 1) := by decide +kernel
theorem dX3_digest_296 : decode cX3_digest 296 = .ok (.ladd, 1) := by decide +kernel
theorem dX3_digest_297 : decode cX3_digest 297 = .ok (.lstore_n 3, 1) := by decide +kernel
theorem dX3_digest_298 : decode cX3_digest 298 = .ok (.iinc 5 1, 3) := by decide +kernel
theorem dX3_digest_301 : decode cX3_digest 301 = .ok (.goto (-57), 3) := by decide +kernel
theorem dX3_digest_304 : decode cX3_digest 304 = .ok (.iconst 0, 1) := by decide +kernel
theorem dX3_digest_305 : decode cX3_digest 305 = .ok (.istore 5, 2) := by decide +kernel
theorem dX3_digest_307 : decode cX3_digest 307 = .ok (.iload 5, 2) := by decide +kernel
theorem dX3_digest_309 : decode cX3_digest 309 = .ok (.bipush 10, 2) := by decide +kernel
theorem dX3_digest_311 : decode cX3_digest 311 = .ok (.if_icmp .ge 25, 3) := by decide +kernel
theorem dX3_digest_314 : decode cX3_digest 314 = .ok (.lload_n 3, 1) := by decide +kernel
theorem dX3_digest_315 : decode cX3_digest 315 = .ok (.ldc2_w 168, 3) := by decide +kernel
theorem dX3_digest_318 : decode cX3_digest 318 = .ok (.lmul, 1) := by decide +kernel
theorem dX3_digest_319 : decode cX3_digest 319 = .ok (.aload_n 0, 1) := by decide +kernel
theorem dX3_digest_320 : decode cX3_digest 320 = .ok (.iload 5, 2) := by decide +kernel
theorem dX3_digest_322 : decode cX3_digest 322 = .ok (.bipush 7, 2) := by decide +kernel
theorem dX3_digest_324 : decode cX3_digest 324 = .ok (.invokevirtual 74, 3) := by decide +kernel
theorem dX3_digest_327 : decode cX3_digest 327 = .ok (.i2l, 1) := by decide +kernel
theorem dX3_digest_328 : decode cX3_digest 328 = .ok (.ladd, 1) := by decide +kernel
theorem dX3_digest_329 : decode cX3_digest 329 = .ok (.lstore_n 3, 1) := by decide +kernel
theorem dX3_digest_330 : decode cX3_digest 330 = .ok (.iinc 5 1, 3) := by decide +kernel
theorem dX3_digest_333 : decode cX3_digest 333 = .ok (.goto (-26), 3) := by decide +kernel
theorem dX3_digest_336 : decode cX3_digest 336 = .ok (.lload_n 3, 1) := by decide +kernel
theorem dX3_digest_337 : decode cX3_digest 337 = .ok (.lreturn, 1) := by decide +kernel
theorem dJ6_bitCount_0f7a4_0 : decode cJ6_bitCount_0f7a4 0 = .ok (.iload_n 0, 1) := by decide +kernel
theorem dJ6_bitCount_0f7a4_1 : decode cJ6_bitCount_0f7a4 1 = .ok (.iload_n 0, 1) := by decide +kernel
theorem dJ6_bitCount_0f7a4_2 : decode cJ6_bitCount_0f7a4 2 = .ok (.iconst 1, 1) := by decide +kernel
theorem dJ6_bitCount_0f7a4_3 : decode cJ6_bitCount_0f7a4 3 = .ok (.iushr, 1) := by decide +kernel
theorem dJ6_bitCount_0f7a4_4 : decode cJ6_bitCount_0f7a4 4 = .ok (.ldc_w 265, 3) := by decide +kernel
theorem dJ6_bitCount_0f7a4_7 : decode cJ6_bitCount_0f7a4 7 = .ok (.iand, 1) := by decide +kernel
theorem dJ6_bitCount_0f7a4_8 : decode cJ6_bitCount_0f7a4 8 = .ok (.isub, 1) := by decide +kernel
theorem dJ6_bitCount_0f7a4_9 : decode cJ6_bitCount_0f7a4 9 = .ok (.istore_n 0, 1) := by decide +kernel
theorem dJ6_bitCount_0f7a4_10 : decode cJ6_bitCount_0f7a4 10 = .ok (.iload_n 0, 1) := by decide +kernel
theorem dJ6_bitCount_0f7a4_11 : decode cJ6_bitCount_0f7a4 11 = .ok (.ldc_w 266, 3) := by decide +kernel
theorem dJ6_bitCount_0f7a4_14 : decode cJ6_bitCount_0f7a4 14 = .ok (.iand, 1) := by decide +kernel
theorem dJ6_bitCount_0f7a4_15 : decode cJ6_bitCount_0f7a4 15 = .ok (.iload_n 0, 1) := by decide +kernel
theorem dJ6_bitCount_0f7a4_16 : decode cJ6_bitCount_0f7a4 16 = .ok (.iconst 2, 1) := by decide +kernel
theorem dJ6_bitCount_0f7a4_17 : decode cJ6_bitCount_0f7a4 17 = .ok (.iushr, 1) := by decide +kernel
theorem dJ6_bitCount_0f7a4_18 : decode cJ6_bitCount_0f7a4 18 = .ok (.ldc_w 266, 3) := by decide +kernel
theorem dJ6_bitCount_0f7a4_21 : decode cJ6_bitCount_0f7a4 21 = .ok (.iand, 1) := by decide +kernel
theorem dJ6_bitCount_0f7a4_22 : decode cJ6_bitCount_0f7a4 22 = .ok (.iadd, 1) := by decide +kernel
theorem dJ6_bitCount_0f7a4_23 : decode cJ6_bitCount_0f7a4 23 = .ok (.istore_n 0, 1) := by decide +kernel
theorem dJ6_bitCount_0f7a4_24 : decode cJ6_bitCount_0f7a4 24 = .ok (.iload_n 0, 1) := by decide +kernel
theorem dJ6_bitCount_0f7a4_25 : decode cJ6_bitCount_0f7a4 25 = .ok (.iload_n 0, 1) := by decide +kernel
theorem dJ6_bitCount_0f7a4_26 : decode cJ6_bitCount_0f7a4 26 = .ok (.iconst 4, 1) := by decide +kernel
theorem dJ6_bitCount_0f7a4_27 : decode cJ6_bitCount_0f7a4 27 = .ok (.iushr, 1) := by decide +kernel
theorem dJ6_bitCount_0f7a4_28 : decode cJ6_bitCount_0f7a4 28 = .ok (.iadd, 1) := by decide +kernel
theorem dJ6_bitCount_0f7a4_29 : decode cJ6_bitCount_0f7a4 29 = .ok (.ldc_w 267, 3) := by decide +kernel
theorem dJ6_bitCount_0f7a4_32 : decode cJ6_bitCount_0f7a4 32 = .ok (.iand, 1) := by decide +kernel
theorem dJ6_bitCount_0f7a4_33 : decode cJ6_bitCount_0f7a4 33 = .ok (.istore_n 0, 1) := by decide +kernel
theorem dJ6_bitCount_0f7a4_34 : decode cJ6_bitCount_0f7a4 34 = .ok (.iload_n 0, 1) := by decide +kernel
theorem dJ6_bitCount_0f7a4_35 : decode cJ6_bitCount_0f7a4 35 = .ok (.iload_n 0, 1) := by decide +kernel
theorem dJ6_bitCount_0f7a4_36 : decode cJ6_bitCount_0f7a4 36 = .ok (.bipush 8, 2) := by decide +kernel
theorem dJ6_bitCount_0f7a4_38 : decode cJ6_bitCount_0f7a4 38 = .ok (.iushr, 1) := by decide +kernel
theorem dJ6_bitCount_0f7a4_39 : decode cJ6_bitCount_0f7a4 39 = .ok (.iadd, 1) := by decide +kernel
theorem dJ6_bitCount_0f7a4_40 : decode cJ6_bitCount_0f7a4 40 = .ok (.istore_n 0, 1) := by decide +kernel
theorem dJ6_bitCount_0f7a4_41 : decode cJ6_bitCount_0f7a4 41 = .ok (.iload_n 0, 1) := by decide +kernel
theorem dJ6_bitCount_0f7a4_42 : decode cJ6_bitCount_0f7a4 42 = .ok (.iload_n 0, 1) := by decide +kernel
theorem dJ6_bitCount_0f7a4_43 : decode cJ6_bitCount_0f7a4 43 = .ok (.bipush 16, 2) := by decide +kernel
theorem dJ6_bitCount_0f7a4_45 : decode cJ6_bitCount_0f7a4 45 = .ok (.iushr, 1) := by decide +kernel
theorem dJ6_bitCount_0f7a4_46 : decode cJ6_bitCount_0f7a4 46 = .ok (.iadd, 1) := by decide +kernel
theorem dJ6_bitCount_0f7a4_47 : decode cJ6_bitCount_0f7a4 47 = .ok (.istore_n 0, 1) := by decide +kernel
theorem dJ6_bitCount_0f7a4_48 : decode cJ6_bitCount_0f7a4 48 = .ok (.iload_n 0, 1) := by decide +kernel
theorem dJ6_bitCount_0f7a4_49 : decode cJ6_bitCount_0f7a4 49 = .ok (.bipush 63, 2) := by decide +kernel
theorem dJ6_bitCount_0f7a4_51 : decode cJ6_bitCount_0f7a4 51 = .ok (.iand, 1) := by decide +kernel
theorem dJ6_bitCount_0f7a4_52 : decode cJ6_bitCount_0f7a4 52 = .ok (.ireturn, 1) := by decide +kernel
theorem dJ9_abs_0f7a4_0 : decode cJ9_abs_0f7a4 0 = .ok (.iload_n 0, 1) := by decide +kernel
theorem dJ9_abs_0f7a4_1 : decode cJ9_abs_0f7a4 1 = .ok (.ifCond .ge 8, 3) := by decide +kernel
theorem dJ9_abs_0f7a4_4 : decode cJ9_abs_0f7a4 4 = .ok (.iload_n 0, 1) := by decide +kernel
theorem dJ9_abs_0f7a4_5 : decode cJ9_abs_0f7a4 5 = .ok (.ineg, 1) := by decide +kernel
theorem dJ9_abs_0f7a4_6 : decode cJ9_abs_0f7a4 6 = .ok (.goto 4, 3) := by decide +kernel
theorem dJ9_abs_0f7a4_9 : decode cJ9_abs_0f7a4 9 = .ok (.iload_n 0, 1) := by decide +kernel
theorem dJ9_abs_0f7a4_10 : decode cJ9_abs_0f7a4 10 = .ok (.ireturn, 1) := by decide +kernel
theorem dJ9_max_7cf53_0 : decode cJ9_max_7cf53 0 = .ok (.iload_n 0, 1) := by decide +kernel
theorem dJ9_max_7cf53_1 : decode cJ9_max_7cf53 1 = .ok (.iload_n 1, 1) := by decide +kernel
theorem dJ9_max_7cf53_2 : decode cJ9_max_7cf53 2 = .ok (.if_icmp .lt 7, 3) := by decide +kernel
theorem dJ9_max_7cf53_5 : decode cJ9_max_7cf53 5 = .ok (.iload_n 0, 1) := by decide +kernel
theorem dJ9_max_7cf53_6 : decode cJ9_max_7cf53 6 = .ok (.goto 4, 3) := by decide +kernel
theorem dJ9_max_7cf53_9 : decode cJ9_max_7cf53 9 = .ok (.iload_n 1, 1) := by decide +kernel
theorem dJ9_max_7cf53_10 : decode cJ9_max_7cf53 10 = .ok (.ireturn, 1) := by decide +kernel
theorem dJ9_min_7cf53_0 : decode cJ9_min_7cf53 0 = .ok (.iload_n 0, 1) := by decide +kernel
theorem dJ9_min_7cf53_1 : decode cJ9_min_7cf53 1 = .ok (.iload_n 1, 1) := by decide +kernel
theorem dJ9_min_7cf53_2 : decode cJ9_min_7cf53 2 = .ok (.if_icmp .gt 7, 3) := by decide +kernel
theorem dJ9_min_7cf53_5 : decode cJ9_min_7cf53 5 = .ok (.iload_n 0, 1) := by decide +kernel
theorem dJ9_min_7cf53_6 : decode cJ9_min_7cf53 6 = .ok (.goto 4, 3) := by decide +kernel
theorem dJ9_min_7cf53_9 : decode cJ9_min_7cf53 9 = .ok (.iload_n 1, 1) := by decide +kernel
theorem dJ9_min_7cf53_10 : decode cJ9_min_7cf53 10 = .ok (.ireturn, 1) := by decide +kernel
theorem dJxa1e45_init_da8c8_0 : decode cJxa1e45_init_da8c8 0 = .ok (.aload_n 0, 1) := by decide +kernel
theorem dJxa1e45_init_da8c8_1 : decode cJxa1e45_init_da8c8 1 = .ok (.invokespecial 1, 3) := by decide +kernel
theorem dJxa1e45_init_da8c8_4 : decode cJxa1e45_init_da8c8 4 = .ok (.return_, 1) := by decide +kernel
theorem dJxc12de_init_da8c8_0 : decode cJxc12de_init_da8c8 0 = .ok (.aload_n 0, 1) := by decide +kernel
theorem dJxc12de_init_da8c8_1 : decode cJxc12de_init_da8c8 1 = .ok (.invokespecial 1, 3) := by decide +kernel
theorem dJxc12de_init_da8c8_4 : decode cJxc12de_init_da8c8 4 = .ok (.aload_n 0, 1) := by decide +kernel
theorem dJxc12de_init_da8c8_5 : decode cJxc12de_init_da8c8 5 = .ok (.iconst 0, 1) := by decide +kernel
theorem dJxc12de_init_da8c8_6 : decode cJxc12de_init_da8c8 6 = .ok (.putfield 7, 3) := by decide +kernel
theorem dJxc12de_init_da8c8_9 : decode cJxc12de_init_da8c8 9 = .ok (.return_, 1) := by decide +kernel
theorem dJx4a65c_init_da8c8_0 : decode cJx4a65c_init_da8c8 0 = .ok (.aload_n 0, 1) := by decide +kernel
theorem dJx4a65c_init_da8c8_1 : decode cJx4a65c_init_da8c8 1 = .ok (.invokespecial 1, 3) := by decide +kernel
theorem dJx4a65c_init_da8c8_4 : decode cJx4a65c_init_da8c8 4 = .ok (.aload_n 0, 1) := by decide +kernel
theorem dJx4a65c_init_da8c8_5 : decode cJx4a65c_init_da8c8 5 = .ok (.getstatic 39, 3) := by decide +kernel
theorem dJx4a65c_init_da8c8_8 : decode cJx4a65c_init_da8c8 8 = .ok (.putfield 9, 3) := by decide +kernel
theorem dJx4a65c_init_da8c8_11 : decode cJx4a65c_init_da8c8 11 = .ok (.return_, 1) := by decide +kernel
theorem dJx4a65c_grow_92f84_0 : decode cJx4a65c_grow_92f84 0 = .ok (.aload_n 0, 1) := by decide +kernel
theorem dJx4a65c_grow_92f84_1 : decode cJx4a65c_grow_92f84 1 = .ok (.getfield 9, 3) := by decide +kernel
theorem dJx4a65c_grow_92f84_4 : decode cJx4a65c_grow_92f84 4 = .ok (.arraylength, 1) := by decide +kernel
theorem dJx4a65c_grow_92f84_5 : decode cJx4a65c_grow_92f84 5 = .ok (.istore_n 2, 1) := by decide +kernel
theorem dJx4a65c_grow_92f84_6 : decode cJx4a65c_grow_92f84 6 = .ok (.iload_n 2, 1) := by decide +kernel
theorem dJx4a65c_grow_92f84_7 : decode cJx4a65c_grow_92f84 7 = .ok (.ifCond .gt 13, 3) := by decide +kernel
theorem dJx4a65c_grow_92f84_10 : decode cJx4a65c_grow_92f84 10 = .ok (.aload_n 0, 1) := by decide +kernel
theorem dJx4a65c_grow_92f84_11 : decode cJx4a65c_grow_92f84 11 = .ok (.getfield 9, 3) := by decide +kernel
theorem dJx4a65c_grow_92f84_14 : decode cJx4a65c_grow_92f84 14 = .ok (.getstatic 39, 3) := by decide +kernel
theorem dJx4a65c_grow_92f84_17 : decode cJx4a65c_grow_92f84 17 = .ok (.if_acmp .eq 28, 3) := by decide +kernel
theorem dJx4a65c_grow_92f84_20 : decode cJx4a65c_grow_92f84 20 = .ok (.iload_n 2, 1) := by decide +kernel
theorem dJx4a65c_grow_92f84_21 : decode cJx4a65c_grow_92f84 21 = .ok (.iload_n 1, 1) := by decide +kernel
theorem dJx4a65c_grow_92f84_22 : decode cJx4a65c_grow_92f84 22 = .ok (.iload_n 2, 1) := by decide +kernel
theorem dJx4a65c_grow_92f84_23 : decode cJx4a65c_grow_92f84 23 = .ok (.isub, 1) := by decide +kernel
theorem dJx4a65c_grow_92f84_24 : decode cJx4a65c_grow_92f84 24 = .ok (.iload_n 2, 1) := by decide +kernel
theorem dJx4a65c_grow_92f84_25 : decode cJx4a65c_grow_92f84 25 = .ok (.iconst 1, 1) := by decide +kernel
theorem dJx4a65c_grow_92f84_26 : decode cJx4a65c_grow_92f84 26 = .ok (.ishr, 1) := by decide +kernel
theorem dJx4a65c_grow_92f84_27 : decode cJx4a65c_grow_92f84 27 = .ok (.invokestatic 73, 3) := by decide +kernel
theorem dJx4a65c_grow_92f84_30 : decode cJx4a65c_grow_92f84 30 = .ok (.istore_n 3, 1) := by decide +kernel
theorem dJx4a65c_grow_92f84_31 : decode cJx4a65c_grow_92f84 31 = .ok (.aload_n 0, 1) := by decide +kernel
theorem dJx4a65c_grow_92f84_32 : decode cJx4a65c_grow_92f84 32 = .ok (.aload_n 0, 1) := by decide +kernel
theorem dJx4a65c_grow_92f84_33 : decode cJx4a65c_grow_92f84 33 = .ok (.getfield 9, 3) := by decide +kernel
theorem dJx4a65c_grow_92f84_36 : decode cJx4a65c_grow_92f84 36 = .ok (.iload_n 3, 1) := by decide +kernel
theorem dJx4a65c_grow_92f84_37 : decode cJx4a65c_grow_92f84 37 = .ok (.invokestatic 66, 3) := by decide +kernel
theorem dJx4a65c_grow_92f84_40 : decode cJx4a65c_grow_92f84 40 = .ok (.dup_x1, 1) := by decide +kernel
theorem dJx4a65c_grow_92f84_41 : decode cJx4a65c_grow_92f84 41 = .ok (.putfield 9, 3) := by decide +kernel
theorem dJx4a65c_grow_92f84_44 : decode cJx4a65c_grow_92f84 44 = .ok (.areturn, 1) := by decide +kernel
theorem dJx4a65c_grow_92f84_45 : decode cJx4a65c_grow_92f84 45 = .ok (.aload_n 0, 1) := by decide +kernel
theorem dJx4a65c_grow_92f84_46 : decode cJx4a65c_grow_92f84 46 = .ok (.bipush 10, 2) := by decide +kernel
theorem dJx4a65c_grow_92f84_48 : decode cJx4a65c_grow_92f84 48 = .ok (.iload_n 1, 1) := by decide +kernel
theorem dJx4a65c_grow_92f84_49 : decode cJx4a65c_grow_92f84 49 = .ok (.invokestatic 79, 3) := by decide +kernel
theorem dJx4a65c_grow_92f84_52 : decode cJx4a65c_grow_92f84 52 = .ok (.anewarray 7, 3) := by decide +kernel
theorem dJx4a65c_grow_92f84_55 : decode cJx4a65c_grow_92f84 55 = .ok (.dup_x1, 1) := by decide +kernel
theorem dJx4a65c_grow_92f84_56 : decode cJx4a65c_grow_92f84 56 = .ok (.putfield 9, 3) := by decide +kernel
theorem dJx4a65c_grow_92f84_59 : decode cJx4a65c_grow_92f84 59 = .ok (.areturn, 1) := by decide +kernel
theorem dJx4a65c_grow_d5877_0 : decode cJx4a65c_grow_d5877 0 = .ok (.aload_n 0, 1) := by decide +kernel
theorem dJx4a65c_grow_d5877_1 : decode cJx4a65c_grow_d5877 1 = .ok (.aload_n 0, 1) := by decide +kernel
theorem dJx4a65c_grow_d5877_2 : decode cJx4a65c_grow_d5877 2 = .ok (.getfield 48, 3) := by decide +kernel
theorem dJx4a65c_grow_d5877_5 : decode cJx4a65c_grow_d5877 5 = .ok (.iconst 1, 1) := by decide +kernel
theorem dJx4a65c_grow_d5877_6 : decode cJx4a65c_grow_d5877 6 = .ok (.iadd, 1) := by decide +kernel
theorem dJx4a65c_grow_d5877_7 : decode cJx4a65c_grow_d5877 7 = .ok (.invokevirtual 69, 3) := by decide +kernel
theorem dJx4a65c_grow_d5877_10 : decode cJx4a65c_grow_d5877 10 = .ok (.areturn, 1) := by decide +kernel
theorem dJx4a65c_size_8abf5_0 : decode cJx4a65c_size_8abf5 0 = .ok (.aload_n 0, 1) := by decide +kernel
theorem dJx4a65c_size_8abf5_1 : decode cJx4a65c_size_8abf5 1 = .ok (.getfield 48, 3) := by decide +kernel
theorem dJx4a65c_size_8abf5_4 : decode cJx4a65c_size_8abf5 4 = .ok (.ireturn, 1) := by decide +kernel
theorem dJx4a65c_isEmpty_aae02_0 : decode cJx4a65c_isEmpty_aae02 0 = .ok (.aload_n 0, 1) := by decide +kernel
theorem dJx4a65c_isEmpty_aae02_1 : decode cJx4a65c_isEmpty_aae02 1 = .ok (.getfield 48, 3) := by decide +kernel
theorem dJx4a65c_isEmpty_aae02_4 : decode cJx4a65c_isEmpty_aae02 4 = .ok (.ifCond .ne 7, 3) := by decide +kernel
theorem dJx4a65c_isEmpty_aae02_7 : decode cJx4a65c_isEmpty_aae02 7 = .ok (.iconst 1, 1) := by decide +kernel
theorem dJx4a65c_isEmpty_aae02_8 : decode cJx4a65c_isEmpty_aae02 8 = .ok (.goto 4, 3) := by decide +kernel
theorem dJx4a65c_isEmpty_aae02_11 : decode cJx4a65c_isEmpty_aae02 11 = .ok (.iconst 0, 1) := by decide +kernel
theorem dJx4a65c_isEmpty_aae02_12 : decode cJx4a65c_isEmpty_aae02 12 = .ok (.ireturn, 1) := by decide +kernel
theorem dJx4a65c_elementData_915e3_0 : decode cJx4a65c_elementData_915e3 0 = .ok (.aload_n 0, 1) := by decide +kernel
theorem dJx4a65c_elementData_915e3_1 : decode cJx4a65c_elementData_915e3 1 = .ok (.getfield 9, 3) := by decide +kernel
theorem dJx4a65c_elementData_915e3_4 : decode cJx4a65c_elementData_915e3 4 = .ok (.iload_n 1, 1) := by decide +kernel
theorem dJx4a65c_elementData_915e3_5 : decode cJx4a65c_elementData_915e3 5 = .ok (.aaload, 1) := by decide +kernel
theorem dJx4a65c_elementData_915e3_6 : decode cJx4a65c_elementData_915e3 6 = .ok (.areturn, 1) := by decide +kernel
theorem dJx4a65c_get_915e3_0 : decode cJx4a65c_get_915e3 0 = .ok (.iload_n 1, 1) := by decide +kernel
theorem dJx4a65c_get_915e3_1 : decode cJx4a65c_get_915e3 1 = .ok (.aload_n 0, 1) := by decide +kernel
theorem dJx4a65c_get_915e3_2 : decode cJx4a65c_get_915e3 2 = .ok (.getfield 48, 3) := by decide +kernel
theorem dJx4a65c_get_915e3_5 : decode cJx4a65c_get_915e3 5 = .ok (.invokestatic 118, 3) := by decide +kernel
theorem dJx4a65c_get_915e3_8 : decode cJx4a65c_get_915e3 8 = .ok (.pop, 1) := by decide +kernel
theorem dJx4a65c_get_915e3_9 : decode cJx4a65c_get_915e3 9 = .ok (.aload_n 0, 1) := by decide +kernel
theorem dJx4a65c_get_915e3_10 : decode cJx4a65c_get_915e3 10 = .ok (.iload_n 1, 1) := by decide +kernel
theorem dJx4a65c_get_915e3_11 : decode cJx4a65c_get_915e3 11 = .ok (.invokevirtual 123, 3) := by decide +kernel
theorem dJx4a65c_get_915e3_14 : decode cJx4a65c_get_915e3 14 = .ok (.areturn, 1) := by decide +kernel
theorem dJx4a65c_add_72be8_0 : decode cJx4a65c_add_72be8 0 = .ok (.iload_n 3, 1) := by decide +kernel
theorem dJx4a65c_add_72be8_1 : decode cJx4a65c_add_72be8 1 = .ok (.aload_n 2, 1) := by decide +kernel
theorem dJx4a65c_add_72be8_2 : decode cJx4a65c_add_72be8 2 = .ok (.arraylength, 1) := by decide +kernel
theorem dJx4a65c_add_72be8_3 : decode cJx4a65c_add_72be8 3 = .ok (.if_icmp .ne 8, 3) := by decide +kernel
theorem dJx4a65c_add_72be8_6 : decode cJx4a65c_add_72be8 6 = .ok (.aload_n 0, 1) := by decide +kernel
theorem dJx4a65c_add_72be8_7 : decode cJx4a65c_add_72be8 7 = .ok (.invokevirtual 129, 3) := by decide +kernel
theorem dJx4a65c_add_72be8_10 : decode cJx4a65c_add_72be8 10 = .ok (.astore_n 2, 1) := by decide +kernel
theorem dJx4a65c_add_72be8_11 : decode cJx4a65c_add_72be8 11 = .ok (.aload_n 2, 1) := by decide +kernel
theorem dJx4a65c_add_72be8_12 : decode cJx4a65c_add_72be8 12 = .ok (.iload_n 3, 1) := by decide +kernel
theorem dJx4a65c_add_72be8_13 : decode cJx4a65c_add_72be8 13 = .ok (.aload_n 1, 1) := by decide +kernel
theorem dJx4a65c_add_72be8_14 : decode cJx4a65c_add_72be8 14 = .ok (.aastore, 1) := by decide +kernel
theorem dJx4a65c_add_72be8_15 : decode cJx4a65c_add_72be8 15 = .ok (.aload_n 0, 1) := by decide +kernel
theorem dJx4a65c_add_72be8_16 : decode cJx4a65c_add_72be8 16 = .ok (.iload_n 3, 1) := by decide +kernel
theorem dJx4a65c_add_72be8_17 : decode cJx4a65c_add_72be8 17 = .ok (.iconst 1, 1) := by decide +kernel
theorem dJx4a65c_add_72be8_18 : decode cJx4a65c_add_72be8 18 = .ok (.iadd, 1) := by decide +kernel
theorem dJx4a65c_add_72be8_19 : decode cJx4a65c_add_72be8 19 = .ok (.putfield 48, 3) := by decide +kernel
theorem dJx4a65c_add_72be8_22 : decode cJx4a65c_add_72be8 22 = .ok (.return_, 1) := by decide +kernel
theorem dJx4a65c_add_9ea2d_0 : decode cJx4a65c_add_9ea2d 0 = .ok (.aload_n 0, 1) := by decide +kernel
theorem dJx4a65c_add_9ea2d_1 : decode cJx4a65c_add_9ea2d 1 = .ok (.dup, 1) := by decide +kernel
theorem dJx4a65c_add_9ea2d_2 : decode cJx4a65c_add_9ea2d 2 = .ok (.getfield 63, 3) := by decide +kernel
theorem dJx4a65c_add_9ea2d_5 : decode cJx4a65c_add_9ea2d 5 = .ok (.iconst 1, 1) := by decide +kernel
theorem dJx4a65c_add_9ea2d_6 : decode cJx4a65c_add_9ea2d 6 = .ok (.iadd, 1) := by decide +kernel
theorem dJx4a65c_add_9ea2d_7 : decode cJx4a65c_add_9ea2d 7 = .ok (.putfield 63, 3) := by decide +kernel
theorem dJx4a65c_add_9ea2d_10 : decode cJx4a65c_add_9ea2d 10 = .ok (.aload_n 0, 1) := by decide +kernel
theorem dJx4a65c_add_9ea2d_11 : decode cJx4a65c_add_9ea2d 11 = .ok (.aload_n 1, 1) := by decide +kernel
theorem dJx4a65c_add_9ea2d_12 : decode cJx4a65c_add_9ea2d 12 = .ok (.aload_n 0, 1) := by decide +kernel
theorem dJx4a65c_add_9ea2d_13 : decode cJx4a65c_add_9ea2d 13 = .ok (.getfield 9, 3) := by decide +kernel
theorem dJx4a65c_add_9ea2d_16 : decode cJx4a65c_add_9ea2d 16 = .ok (.aload_n 0, 1) := by decide +kernel
theorem dJx4a65c_add_9ea2d_17 : decode cJx4a65c_add_9ea2d 17 = .ok (.getfield 48, 3) := by decide +kernel
theorem dJx4a65c_add_9ea2d_20 : decode cJx4a65c_add_9ea2d 20 = .ok (.invokevirtual 131, 3) := by decide +kernel
theorem dJx4a65c_add_9ea2d_23 : decode cJx4a65c_add_9ea2d 23 = .ok (.iconst 1, 1) := by decide +kernel
theorem dJx4a65c_add_9ea2d_24 : decode cJx4a65c_add_9ea2d 24 = .ok (.ireturn, 1) := by decide +kernel
theorem dJx4a65c_remove_915e3_0 : decode cJx4a65c_remove_915e3 0 = .ok (.iload_n 1, 1) := by decide +kernel
theorem dJx4a65c_remove_915e3_1 : decode cJx4a65c_remove_915e3 1 = .ok (.aload_n 0, 1) := by decide +kernel
theorem dJx4a65c_remove_915e3_2 : decode cJx4a65c_remove_915e3 2 = .ok (.getfield 48, 3) := by decide +kernel
theorem dJx4a65c_remove_915e3_5 : decode cJx4a65c_remove_915e3 5 = .ok (.invokestatic 118, 3) := by decide +kernel
theorem dJx4a65c_remove_915e3_8 : decode cJx4a65c_remove_915e3 8 = .ok (.pop, 1) := by decide +kernel
theorem dJx4a65c_remove_915e3_9 : decode cJx4a65c_remove_915e3 9 = .ok (.aload_n 0, 1) := by decide +kernel
theorem dJx4a65c_remove_915e3_10 : decode cJx4a65c_remove_915e3 10 = .ok (.getfield 9, 3) := by decide +kernel
theorem dJx4a65c_remove_915e3_13 : decode cJx4a65c_remove_915e3 13 = .ok (.astore_n 2, 1) := by decide +kernel
theorem dJx4a65c_remove_915e3_14 : decode cJx4a65c_remove_915e3 14 = .ok (.aload_n 2, 1) := by decide +kernel
theorem dJx4a65c_remove_915e3_15 : decode cJx4a65c_remove_915e3 15 = .ok (.iload_n 1, 1) := by decide +kernel
theorem dJx4a65c_remove_915e3_16 : decode cJx4a65c_remove_915e3 16 = .ok (.aaload, 1) := by decide +kernel
theorem dJx4a65c_remove_915e3_17 : decode cJx4a65c_remove_915e3 17 = .ok (.astore_n 3, 1) := by decide +kernel
theorem dJx4a65c_remove_915e3_18 : decode cJx4a65c_remove_915e3 18 = .ok (.aload_n 0, 1) := by decide +kernel
theorem dJx4a65c_remove_915e3_19 : decode cJx4a65c_remove_915e3 19 = .ok (.aload_n 2, 1) := by decide +kernel
theorem dJx4a65c_remove_915e3_20 : decode cJx4a65c_remove_915e3 20 = .ok (.iload_n 1, 1) := by decide +kernel
theorem dJx4a65c_remove_915e3_21 : decode cJx4a65c_remove_915e3 21 = .ok (.invokevirtual 144, 3) := by decide +kernel
theorem dJx4a65c_remove_915e3_24 : decode cJx4a65c_remove_915e3 24 = .ok (.aload_n 3, 1) := by decide +kernel
theorem dJx4a65c_remove_915e3_25 : decode cJx4a65c_remove_915e3 25 = .ok (.areturn, 1) := by decide +kernel
theorem dJx4a65c_fastRemove_b59b0_0 : decode cJx4a65c_fastRemove_b59b0 0 = .ok (.aload_n 0, 1) := by decide +kernel
theorem dJx4a65c_fastRemove_b59b0_1 : decode cJx4a65c_fastRemove_b59b0 1 = .ok (.dup, 1) := by decide +kernel
theorem dJx4a65c_fastRemove_b59b0_2 : decode cJx4a65c_fastRemove_b59b0 2 = .ok (.getfield 63, 3) := by decide +kernel
theorem dJx4a65c_fastRemove_b59b0_5 : decode cJx4a65c_fastRemove_b59b0 5 = .ok (.iconst 1, 1) := by decide +kernel
theorem dJx4a65c_fastRemove_b59b0_6 : decode cJx4a65c_fastRemove_b59b0 6 = .ok (.iadd, 1) := by decide +kernel
theorem dJx4a65c_fastRemove_b59b0_7 : decode cJx4a65c_fastRemove_b59b0 7 = .ok (.putfield 63, 3) := by decide +kernel
theorem dJx4a65c_fastRemove_b59b0_10 : decode cJx4a65c_fastRemove_b59b0 10 = .ok (.aload_n 0, 1) := by decide +kernel
theorem dJx4a65c_fastRemove_b59b0_11 : decode cJx4a65c_fastRemove_b59b0 11 = .ok (.getfield 48, 3) := by decide +kernel
theorem dJx4a65c_fastRemove_b59b0_14 : decode cJx4a65c_fastRemove_b59b0 14 = .ok (.iconst 1, 1) := by decide +kernel
theorem dJx4a65c_fastRemove_b59b0_15 : decode cJx4a65c_fastRemove_b59b0 15 = .ok (.isub, 1) := by decide +kernel
theorem dJx4a65c_fastRemove_b59b0_16 : decode cJx4a65c_fastRemove_b59b0 16 = .ok (.dup, 1) := by decide +kernel
theorem dJx4a65c_fastRemove_b59b0_17 : decode cJx4a65c_fastRemove_b59b0 17 = .ok (.istore_n 3, 1) := by decide +kernel
theorem dJx4a65c_fastRemove_b59b0_18 : decode cJx4a65c_fastRemove_b59b0 18 = .ok (.iload_n 2, 1) := by decide +kernel
theorem dJx4a65c_fastRemove_b59b0_19 : decode cJx4a65c_fastRemove_b59b0 19 = .ok (.if_icmp .le 15, 3) := by decide +kernel
theorem dJx4a65c_fastRemove_b59b0_22 : decode cJx4a65c_fastRemove_b59b0 22 = .ok (.aload_n 1, 1) := by decide +kernel
theorem dJx4a65c_fastRemove_b59b0_23 : decode cJx4a65c_fastRemove_b59b0 23 = .ok (.iload_n 2, 1) := by decide +kernel
theorem dJx4a65c_fastRemove_b59b0_24 : decode cJx4a65c_fastRemove_b59b0 24 = .ok (.iconst 1, 1) := by decide +kernel
theorem dJx4a65c_fastRemove_b59b0_25 : decode cJx4a65c_fastRemove_b59b0 25 = .ok (.iadd, 1) := by decide +kernel
theorem dJx4a65c_fastRemove_b59b0_26 : decode cJx4a65c_fastRemove_b59b0 26 = .ok (.aload_n 1, 1) := by decide +kernel
theorem dJx4a65c_fastRemove_b59b0_27 : decode cJx4a65c_fastRemove_b59b0 27 = .ok (.iload_n 2, 1) := by decide +kernel
theorem dJx4a65c_fastRemove_b59b0_28 : decode cJx4a65c_fastRemove_b59b0 28 = .ok (.iload_n 3, 1) := by decide +kernel
theorem dJx4a65c_fastRemove_b59b0_29 : decode cJx4a65c_fastRemove_b59b0 29 = .ok (.iload_n 2, 1) := by decide +kernel
theorem dJx4a65c_fastRemove_b59b0_30 : decode cJx4a65c_fastRemove_b59b0 30 = .ok (.isub, 1) := by decide +kernel
theorem dJx4a65c_fastRemove_b59b0_31 : decode cJx4a65c_fastRemove_b59b0 31 = .ok (.invokestatic 112, 3) := by decide +kernel
theorem dJx4a65c_fastRemove_b59b0_34 : decode cJx4a65c_fastRemove_b59b0 34 = .ok (.aload_n 1, 1) := by decide +kernel
theorem dJx4a65c_fastRemove_b59b0_35 : decode cJx4a65c_fastRemove_b59b0 35 = .ok (.aload_n 0, 1) := by decide +kernel
theorem dJx4a65c_fastRemove_b59b0_36 : decode cJx4a65c_fastRemove_b59b0 36 = .ok (.iload_n 3, 1) := by decide +kernel
theorem dJx4a65c_fastRemove_b59b0_37 : decode cJx4a65c_fastRemove_b59b0 37 = .ok (.dup_x1, 1) := by decide +kernel
theorem dJx4a65c_fastRemove_b59b0_38 : decode cJx4a65c_fastRemove_b59b0 38 = .ok (.putfield 48, 3) := by decide +kernel
theorem dJx4a65c_fastRemove_b59b0_41 : decode cJx4a65c_fastRemove_b59b0 41 = .ok (.aconst_null, 1) := by decide +kernel
theorem dJx4a65c_fastRemove_b59b0_42 : decode cJx4a65c_fastRemove_b59b0 42 = .ok (.aastore, 1) := by decide +kernel
theorem dJx4a65c_fastRemove_b59b0_43 : decode cJx4a65c_fastRemove_b59b0 43 = .ok (.return_, 1) := by decide +kernel
theorem dJx4a65c_clear_da8c8_0 : decode cJx4a65c_clear_da8c8 0 = .ok (.aload_n 0, 1) := by decide +kernel
theorem dJx4a65c_clear_da8c8_1 : decode cJx4a65c_clear_da8c8 1 = .ok (.dup, 1) := by decide +kernel
theorem dJx4a65c_clear_da8c8_2 : decode cJx4a65c_clear_da8c8 2 = .ok (.getfield 63, 3) := by decide +kernel
theorem dJx4a65c_clear_da8c8_5 : decode cJx4a65c_clear_da8c8 5 = .ok (.iconst 1, 1) := by decide +kernel
theorem dJx4a65c_clear_da8c8_6 : decode cJx4a65c_clear_da8c8 6 = .ok (.iadd, 1) := by decide +kernel
theorem dJx4a65c_clear_da8c8_7 : decode cJx4a65c_clear_da8c8 7 = .ok (.putfield 63, 3) := by decide +kernel
theorem dJx4a65c_clear_da8c8_10 : decode cJx4a65c_clear_da8c8 10 = .ok (.aload_n 0, 1) := by decide +kernel
theorem dJx4a65c_clear_da8c8_11 : decode cJx4a65c_clear_da8c8 11 = .ok (.getfield 9, 3) := by decide +kernel
theorem dJx4a65c_clear_da8c8_14 : decode cJx4a65c_clear_da8c8 14 = .ok (.astore_n 1, 1) := by decide +kernel
theorem dJx4a65c_clear_da8c8_15 : decode cJx4a65c_clear_da8c8 15 = .ok (.aload_n 0, 1) := by decide +kernel
theorem dJx4a65c_clear_da8c8_16 : decode cJx4a65c_clear_da8c8 16 = .ok (.getfield 48, 3) := by decide +kernel
theorem dJx4a65c_clear_da8c8_19 : decode cJx4a65c_clear_da8c8 19 = .ok (.istore_n 2, 1) := by decide +kernel
theorem dJx4a65c_clear_da8c8_20 : decode cJx4a65c_clear_da8c8 20 = .ok (.aload_n 0, 1) := by decide +kernel
theorem dJx4a65c_clear_da8c8_21 : decode cJx4a65c_clear_da8c8 21 = .ok (.iconst 0, 1) := by decide +kernel
theorem dJx4a65c_clear_da8c8_22 : decode cJx4a65c_clear_da8c8 22 = .ok (.dup_x1, 1) := by decide +kernel
theorem dJx4a65c_clear_da8c8_23 : decode cJx4a65c_clear_da8c8 23 = .ok (.putfield 48, 3) := by decide +kernel
theorem dJx4a65c_clear_da8c8_26 : decode cJx4a65c_clear_da8c8 26 = .ok (.istore_n 3, 1) := by decide +kernel
theorem dJx4a65c_clear_da8c8_27 : decode cJx4a65c_clear_da8c8 27 = .ok (.iload_n 3, 1) := by decide +kernel
theorem dJx4a65c_clear_da8c8_28 : decode cJx4a65c_clear_da8c8 28 = .ok (.iload_n 2, 1) := by decide +kernel
theorem dJx4a65c_clear_da8c8_29 : decode cJx4a65c_clear_da8c8 29 = .ok (.if_icmp .ge 13, 3) := by decide +kernel
theorem dJx4a65c_clear_da8c8_32 : decode cJx4a65c_clear_da8c8 32 = .ok (.aload_n 1, 1) := by decide +kernel
theorem dJx4a65c_clear_da8c8_33 : decode cJx4a65c_clear_da8c8 33 = .ok (.iload_n 3, 1) := by decide +kernel
theorem dJx4a65c_clear_da8c8_34 : decode cJx4a65c_clear_da8c8 34 = .ok (.aconst_null, 1) := by decide +kernel
theorem dJx4a65c_clear_da8c8_35 : decode cJx4a65c_clear_da8c8 35 = .ok (.aastore, 1) := by decide +kernel
theorem dJx4a65c_clear_da8c8_36 : decode cJx4a65c_clear_da8c8 36 = .ok (.iinc 3 1, 3) := by decide +kernel
theorem dJx4a65c_clear_da8c8_39 : decode cJx4a65c_clear_da8c8 39 = .ok (.goto (-12), 3) := by decide +kernel
theorem dJx4a65c_clear_da8c8_42 : decode cJx4a65c_clear_da8c8 42 = .ok (.return_, 1) := by decide +kernel
theorem dJ7_copyOf_1904c_0 : decode cJ7_copyOf_1904c 0 = .ok (.aload_n 0, 1) := by decide +kernel
theorem dJ7_copyOf_1904c_1 : decode cJ7_copyOf_1904c 1 = .ok (.iload_n 1, 1) := by decide +kernel
theorem dJ7_copyOf_1904c_2 : decode cJ7_copyOf_1904c 2 = .ok (.aload_n 0, 1) := by decide +kernel
theorem dJ7_copyOf_1904c_3 : decode cJ7_copyOf_1904c 3 = .ok (.invokevirtual 86, 3) := by decide +kernel
theorem dJ7_copyOf_1904c_6 : decode cJ7_copyOf_1904c 6 = .ok (.invokestatic 300, 3) := by decide +kernel
theorem dJ7_copyOf_1904c_9 : decode cJ7_copyOf_1904c 9 = .ok (.areturn, 1) := by decide +kernel
theorem dJ7_copyOf_6403c_0 : decode cJ7_copyOf_6403c 0 = .ok (.aload_n 2, 1) := by decide +kernel
theorem dJ7_copyOf_6403c_1 : decode cJ7_copyOf_6403c 1 = .ok (.ldc 110, 2) := by decide +kernel
theorem dJ7_copyOf_6403c_3 : decode cJ7_copyOf_6403c 3 = .ok (.if_acmp .ne 10, 3) := by decide +kernel
theorem dJ7_copyOf_6403c_6 : decode cJ7_copyOf_6403c 6 = .ok (.iload_n 1, 1) := by decide +kernel
theorem dJ7_copyOf_6403c_7 : decode cJ7_copyOf_6403c 7 = .ok (.anewarray 2, 3) := by decide +kernel
theorem dJ7_copyOf_6403c_10 : decode cJ7_copyOf_6403c 10 = .ok (.goto 14, 3) := by decide +kernel
theorem dJ7_copyOf_6403c_13 : decode cJ7_copyOf_6403c 13 = .ok (.aload_n 2, 1) := by decide +kernel
theorem dJ7_copyOf_6403c_14 : decode cJ7_copyOf_6403c 14 = .ok (.invokevirtual 90, 3) := by decide +kernel
theorem dJ7_copyOf_6403c_17 : decode cJ7_copyOf_6403c 17 = .ok (.iload_n 1, 1) := by decide +kernel
theorem dJ7_copyOf_6403c_18 : decode cJ7_copyOf_6403c 18 = .ok (.invokestatic 95, 3) := by decide +kernel
theorem dJ7_copyOf_6403c_21 : decode cJ7_copyOf_6403c 21 = .ok (.checkcast 110, 3) := by decide +kernel
theorem dJ7_copyOf_6403c_24 : decode cJ7_copyOf_6403c 24 = .ok (.astore_n 3, 1) := by decide +kernel
theorem dJ7_copyOf_6403c_25 : decode cJ7_copyOf_6403c 25 = .ok (.aload_n 0, 1) := by decide +kernel
theorem dJ7_copyOf_6403c_26 : decode cJ7_copyOf_6403c 26 = .ok (.iconst 0, 1) := by decide +kernel
theorem dJ7_copyOf_6403c_27 : decode cJ7_copyOf_6403c 27 = .ok (.aload_n 3, 1) := by decide +kernel
theorem dJ7_copyOf_6403c_28 : decode cJ7_copyOf_6403c 28 = .ok (.iconst 0, 1) := by decide +kernel
theorem dJ7_copyOf_6403c_29 : decode cJ7_copyOf_6403c 29 = .ok (.aload_n 0, 1) := by decide +kernel
theorem dJ7_copyOf_6403c_30 : decode cJ7_copyOf_6403c 30 = .ok (.arraylength, 1) := by decide +kernel
theorem dJ7_copyOf_6403c_31 : decode cJ7_copyOf_6403c 31 = .ok (.iload_n 1, 1) := by decide +kernel
theorem dJ7_copyOf_6403c_32 : decode cJ7_copyOf_6403c 32 = .ok (.invokestatic 304, 3) := by decide +kernel
theorem dJ7_copyOf_6403c_35 : decode cJ7_copyOf_6403c 35 = .ok (.invokestatic 150, 3) := by decide +kernel
theorem dJ7_copyOf_6403c_38 : decode cJ7_copyOf_6403c 38 = .ok (.aload_n 3, 1) := by decide +kernel
theorem dJ7_copyOf_6403c_39 : decode cJ7_copyOf_6403c 39 = .ok (.areturn, 1) := by decide +kernel
theorem dJ15_checkIndex_7cf53_0 : decode cJ15_checkIndex_7cf53 0 = .ok (.iload_n 0, 1) := by decide +kernel
theorem dJ15_checkIndex_7cf53_1 : decode cJ15_checkIndex_7cf53 1 = .ok (.iload_n 1, 1) := by decide +kernel
theorem dJ15_checkIndex_7cf53_2 : decode cJ15_checkIndex_7cf53 2 = .ok (.aconst_null, 1) := by decide +kernel
theorem dJ15_checkIndex_7cf53_3 : decode cJ15_checkIndex_7cf53 3 = .ok (.invokestatic 105, 3) := by decide +kernel
theorem dJ15_checkIndex_7cf53_6 : decode cJ15_checkIndex_7cf53 6 = .ok (.ireturn, 1) := by decide +kernel
theorem dJ8_newLength_cabcc_0 : decode cJ8_newLength_cabcc 0 = .ok (.iload_n 0, 1) := by decide +kernel
theorem dJ8_newLength_cabcc_1 : decode cJ8_newLength_cabcc 1 = .ok (.iload_n 1, 1) := by decide +kernel
theorem dJ8_newLength_cabcc_2 : decode cJ8_newLength_cabcc 2 = .ok (.iload_n 2, 1) := by decide +kernel
theorem dJ8_newLength_cabcc_3 : decode cJ8_newLength_cabcc 3 = .ok (.invokestatic 194, 3) := by decide +kernel
theorem dJ8_newLength_cabcc_6 : decode cJ8_newLength_cabcc 6 = .ok (.iadd, 1) := by decide +kernel
theorem dJ8_newLength_cabcc_7 : decode cJ8_newLength_cabcc 7 = .ok (.istore_n 3, 1) := by decide +kernel
theorem dJ8_newLength_cabcc_8 : decode cJ8_newLength_cabcc 8 = .ok (.iconst 0, 1) := by decide +kernel
theorem dJ8_newLength_cabcc_9 : decode cJ8_newLength_cabcc 9 = .ok (.iload_n 3, 1) := by decide +kernel
theorem dJ8_newLength_cabcc_10 : decode cJ8_newLength_cabcc 10 = .ok (.if_icmp .ge 11, 3) := by decide +kernel
theorem dJ8_newLength_cabcc_13 : decode cJ8_newLength_cabcc 13 = .ok (.iload_n 3, 1) := by decide +kernel
theorem dJ8_newLength_cabcc_14 : decode cJ8_newLength_cabcc 14 = .ok (.ldc 200, 2) := by decide +kernel
theorem dJ8_newLength_cabcc_16 : decode cJ8_newLength_cabcc 16 = .ok (.if_icmp .gt 5, 3) := by decide +kernel
theorem dJ8_newLength_cabcc_19 : decode cJ8_newLength_cabcc 19 = .ok (.iload_n 3, 1) := by decide +kernel
theorem dJ8_newLength_cabcc_20 : decode cJ8_newLength_cabcc 20 = .ok (.ireturn, 1) := by decide +kernel
theorem dJ8_newLength_cabcc_21 : decode cJ8_newLength_cabcc 21 = .ok (.iload_n 0, 1) := by decide +kernel
theorem dJ8_newLength_cabcc_22 : decode cJ8_newLength_cabcc 22 = .ok (.iload_n 1, 1) := by decide +kernel
theorem dJ8_newLength_cabcc_23 : decode cJ8_newLength_cabcc 23 = .ok (.invokestatic 201, 3) := by decide +kernel
theorem dJ8_newLength_cabcc_26 : decode cJ8_newLength_cabcc 26 = .ok (.ireturn, 1) := by decide +kernel
theorem dJ8_hugeLength_7cf53_0 : decode cJ8_hugeLength_7cf53 0 = .ok (.iload_n 0, 1) := by decide +kernel
theorem dJ8_hugeLength_7cf53_1 : decode cJ8_hugeLength_7cf53 1 = .ok (.iload_n 1, 1) := by decide +kernel
theorem dJ8_hugeLength_7cf53_2 : decode cJ8_hugeLength_7cf53 2 = .ok (.iadd, 1) := by decide +kernel
theorem dJ8_hugeLength_7cf53_3 : decode cJ8_hugeLength_7cf53 3 = .ok (.istore_n 2, 1) := by decide +kernel
theorem dJ8_hugeLength_7cf53_4 : decode cJ8_hugeLength_7cf53 4 = .ok (.iload_n 2, 1) := by decide +kernel
theorem dJ8_hugeLength_7cf53_5 : decode cJ8_hugeLength_7cf53 5 = .ok (.ifCond .ge 44, 3) := by decide +kernel
theorem dJ8_hugeLength_7cf53_8 : decode cJ8_hugeLength_7cf53 8 = .ok (.new 204, 3) := by decide +kernel
theorem dJ8_hugeLength_7cf53_11 : decode cJ8_hugeLength_7cf53 11 = .ok (.dup, 1) := by decide +kernel
theorem dJ8_hugeLength_7cf53_12 : decode cJ8_hugeLength_7cf53 12 = .ok (.new 89, 3) := by decide +kernel
theorem dJ8_hugeLength_7cf53_15 : decode cJ8_hugeLength_7cf53 15 = .ok (.dup, 1) := by decide +kernel
theorem dJ8_hugeLength_7cf53_16 : decode cJ8_hugeLength_7cf53 16 = .ok (.invokespecial 91, 3) := by decide +kernel
theorem dJ8_hugeLength_7cf53_19 : decode cJ8_hugeLength_7cf53 19 = .ok (.ldc 206, 2) := by decide +kernel
theorem dJ8_hugeLength_7cf53_21 : decode cJ8_hugeLength_7cf53 21 = .ok (.invokevirtual 94, 3) := by decide +kernel
theorem dJ8_hugeLength_7cf53_24 : decode cJ8_hugeLength_7cf53 24 = .ok (.iload_n 0, 1) := by decide +kernel
theorem dJ8_hugeLength_7cf53_25 : decode cJ8_hugeLength_7cf53 25 = .ok (.invokevirtual 98, 3) := by decide +kernel
theorem dJ8_hugeLength_7cf53_28 : decode cJ8_hugeLength_7cf53 28 = .ok (.ldc 208, 2) := by decide +kernel
theorem dJ8_hugeLength_7cf53_30 : decode cJ8_hugeLength_7cf53 30 = .ok (.invokevirtual 94, 3) := by decide +kernel
theorem dJ8_hugeLength_7cf53_33 : decode cJ8_hugeLength_7cf53 33 = .ok (.iload_n 1, 1) := by decide +kernel
theorem dJ8_hugeLength_7cf53_34 : decode cJ8_hugeLength_7cf53 34 = .ok (.invokevirtual 98, 3) := by decide +kernel
theorem dJ8_hugeLength_7cf53_37 : decode cJ8_hugeLength_7cf53 37 = .ok (.ldc 210, 2) := by decide +kernel
theorem dJ8_hugeLength_7cf53_39 : decode cJ8_hugeLength_7cf53 39 = .ok (.invokevirtual 94, 3) := by decide +kernel
theorem dJ8_hugeLength_7cf53_42 : decode cJ8_hugeLength_7cf53 42 = .ok (.invokevirtual 101, 3) := by decide +kernel
theorem dJ8_hugeLength_7cf53_45 : decode cJ8_hugeLength_7cf53 45 = .ok (.invokespecial 212, 3) := by decide +kernel
theorem dJ8_hugeLength_7cf53_48 : decode cJ8_hugeLength_7cf53 48 = .ok (.athrow, 1) := by decide +kernel
theorem dJ8_hugeLength_7cf53_49 : decode cJ8_hugeLength_7cf53 49 = .ok (.iload_n 2, 1) := by decide +kernel
theorem dJ8_hugeLength_7cf53_50 : decode cJ8_hugeLength_7cf53 50 = .ok (.ldc 200, 2) := by decide +kernel
theorem dJ8_hugeLength_7cf53_52 : decode cJ8_hugeLength_7cf53 52 = .ok (.if_icmp .gt 6, 3) := by decide +kernel
theorem dJ8_hugeLength_7cf53_55 : decode cJ8_hugeLength_7cf53 55 = .ok (.ldc 200, 2) := by decide +kernel
theorem dJ8_hugeLength_7cf53_57 : decode cJ8_hugeLength_7cf53 57 = .ok (.ireturn, 1) := by decide +kernel
theorem dJ8_hugeLength_7cf53_58 : decode cJ8_hugeLength_7cf53 58 = .ok (.iload_n 2, 1) := by decide +kernel
theorem dJ8_hugeLength_7cf53_59 : decode cJ8_hugeLength_7cf53 59 = .ok (.ireturn, 1) := by decide +kernel
theorem dJ3_checkIndex_8e157_0 : decode cJ3_checkIndex_8e157 0 = .ok (.iload_n 0, 1) := by decide +kernel
theorem dJ3_checkIndex_8e157_1 : decode cJ3_checkIndex_8e157 1 = .ok (.ifCond .lt 8, 3) := by decide +kernel
theorem dJ3_checkIndex_8e157_4 : decode cJ3_checkIndex_8e157 4 = .ok (.iload_n 0, 1) := by decide +kernel
theorem dJ3_checkIndex_8e157_5 : decode cJ3_checkIndex_8e157 5 = .ok (.iload_n 1, 1) := by decide +kernel
theorem dJ3_checkIndex_8e157_6 : decode cJ3_checkIndex_8e157 6 = .ok (.if_icmp .lt 10, 3) := by decide +kernel
theorem dJ3_checkIndex_8e157_9 : decode cJ3_checkIndex_8e157 9 = .ok (.aload_n 2, 1) := by decide +kernel
theorem dJ3_checkIndex_8e157_10 : decode cJ3_checkIndex_8e157 10 = .ok (.iload_n 0, 1) := by decide +kernel
theorem dJ3_checkIndex_8e157_11 : decode cJ3_checkIndex_8e157 11 = .ok (.iload_n 1, 1) := by decide +kernel
theorem dJ3_checkIndex_8e157_12 : decode cJ3_checkIndex_8e157 12 = .ok (.invokestatic 95, 3) := by decide +kernel
theorem dJ3_checkIndex_8e157_15 : decode cJ3_checkIndex_8e157 15 = .ok (.athrow, 1) := by decide +kernel
theorem dJ3_checkIndex_8e157_16 : decode cJ3_checkIndex_8e157 16 = .ok (.iload_n 0, 1) := by decide +kernel
theorem dJ3_checkIndex_8e157_17 : decode cJ3_checkIndex_8e157 17 = .ok (.ireturn, 1) := by decide +kernel
theorem dL_setDice_0 : decode cL_setDice 0 = .ok (.aload 4, 2) := by decide +kernel
theorem dL_setDice_2 : decode cL_setDice 2 = .ok (.iconst 0, 1) := by decide +kernel
theorem dL_setDice_3 : decode cL_setDice 3 = .ok (.aload_n 0, 1) := by decide +kernel
theorem dL_setDice_4 : decode cL_setDice 4 = .ok (.iload_n 1, 1) := by decide +kernel
theorem dL_setDice_5 : decode cL_setDice 5 = .ok (.iload_n 2, 1) := by decide +kernel
theorem dL_setDice_6 : decode cL_setDice 6 = .ok (.iload_n 3, 1) := by decide +kernel
theorem dL_setDice_7 : decode cL_setDice 7 = .ok (.invokevirtual 7, 3) := by decide +kernel
theorem dL_setDice_10 : decode cL_setDice 10 = .ok (.i2l, 1) := by decide +kernel
theorem dL_setDice_11 : decode cL_setDice 11 = .ok (.lastore, 1) := by decide +kernel
theorem dL_setDice_12 : decode cL_setDice 12 = .ok (.goto 11, 3) := by decide +kernel
theorem dL_setDice_15 : decode cL_setDice 15 = .ok (.astore 5, 2) := by decide +kernel
theorem dL_setDice_17 : decode cL_setDice 17 = .ok (.iconst 1, 1) := by decide +kernel
theorem dL_setDice_18 : decode cL_setDice 18 = .ok (.ireturn, 1) := by decide +kernel
theorem dL_setDice_19 : decode cL_setDice 19 = .ok (.astore 5, 2) := by decide +kernel
theorem dL_setDice_21 : decode cL_setDice 21 = .ok (.iconst 2, 1) := by decide +kernel
theorem dL_setDice_22 : decode cL_setDice 22 = .ok (.ireturn, 1) := by decide +kernel
theorem dL_setDice_23 : decode cL_setDice 23 = .ok (.iconst 0, 1) := by decide +kernel
theorem dL_setDice_24 : decode cL_setDice 24 = .ok (.ireturn, 1) := by decide +kernel
theorem dL_sumOf_0 : decode cL_sumOf 0 = .ok (.aload_n 2, 1) := by decide +kernel
theorem dL_sumOf_1 : decode cL_sumOf 1 = .ok (.iconst 0, 1) := by decide +kernel
theorem dL_sumOf_2 : decode cL_sumOf 2 = .ok (.aload_n 0, 1) := by decide +kernel
theorem dL_sumOf_3 : decode cL_sumOf 3 = .ok (.iload_n 1, 1) := by decide +kernel
theorem dL_sumOf_4 : decode cL_sumOf 4 = .ok (.invokevirtual 17, 3) := by decide +kernel
theorem dL_sumOf_7 : decode cL_sumOf 7 = .ok (.i2l, 1) := by decide +kernel
theorem dL_sumOf_8 : decode cL_sumOf 8 = .ok (.lastore, 1) := by decide +kernel
theorem dL_sumOf_9 : decode cL_sumOf 9 = .ok (.goto 6, 3) := by decide +kernel
theorem dL_sumOf_12 : decode cL_sumOf 12 = .ok (.astore_n 3, 1) := by decide +kernel
theorem dL_sumOf_13 : decode cL_sumOf 13 = .ok (.iconst 1, 1) := by decide +kernel
theorem dL_sumOf_14 : decode cL_sumOf 14 = .ok (.ireturn, 1) := by decide +kernel
theorem dL_sumOf_15 : decode cL_sumOf 15 = .ok (.iconst 0, 1) := by decide +kernel
theorem dL_sumOf_16 : decode cL_sumOf 16 = .ok (.ireturn, 1) := by decide +kernel
theorem dL_ways_0 : decode cL_ways 0 = .ok (.aload_n 3, 1) := by decide +kernel
theorem dL_ways_1 : decode cL_ways 1 = .ok (.iconst 0, 1) := by decide +kernel
theorem dL_ways_2 : decode cL_ways 2 = .ok (.aload_n 0, 1) := by decide +kernel
theorem dL_ways_3 : decode cL_ways 3 = .ok (.iload_n 1, 1) := by decide +kernel
theorem dL_ways_4 : decode cL_ways 4 = .ok (.iload_n 2, 1) := by decide +kernel
theorem dL_ways_5 : decode cL_ways 5 = .ok (.invokevirtual 23, 3) := by decide +kernel
theorem dL_ways_8 : decode cL_ways 8 = .ok (.i2l, 1) := by decide +kernel
theorem dL_ways_9 : decode cL_ways 9 = .ok (.lastore, 1) := by decide +kernel
theorem dL_ways_10 : decode cL_ways 10 = .ok (.goto 7, 3) := by decide +kernel
theorem dL_ways_13 : decode cL_ways 13 = .ok (.astore 4, 2) := by decide +kernel
theorem dL_ways_15 : decode cL_ways 15 = .ok (.iconst 1, 1) := by decide +kernel
theorem dL_ways_16 : decode cL_ways 16 = .ok (.ireturn, 1) := by decide +kernel
theorem dL_ways_17 : decode cL_ways 17 = .ok (.iconst 0, 1) := by decide +kernel
theorem dL_ways_18 : decode cL_ways 18 = .ok (.ireturn, 1) := by decide +kernel
theorem dL_chance_0 : decode cL_chance 0 = .ok (.aload_n 3, 1) := by decide +kernel
theorem dL_chance_1 : decode cL_chance 1 = .ok (.iconst 0, 1) := by decide +kernel
theorem dL_chance_2 : decode cL_chance 2 = .ok (.aload_n 0, 1) := by decide +kernel
theorem dL_chance_3 : decode cL_chance 3 = .ok (.iload_n 1, 1) := by decide +kernel
theorem dL_chance_4 : decode cL_chance 4 = .ok (.iload_n 2, 1) := by decide +kernel
theorem dL_chance_5 : decode cL_chance 5 = .ok (.invokevirtual 27, 3) := by decide +kernel
theorem dL_chance_8 : decode cL_chance 8 = .ok (.dastore, 1) := by decide +kernel
theorem dL_chance_9 : decode cL_chance 9 = .ok (.goto 7, 3) := by decide +kernel
theorem dL_chance_12 : decode cL_chance 12 = .ok (.astore 4, 2) := by decide +kernel
theorem dL_chance_14 : decode cL_chance 14 = .ok (.iconst 1, 1) := by decide +kernel
theorem dL_chance_15 : decode cL_chance 15 = .ok (.ireturn, 1) := by decide +kernel
theorem dL_chance_16 : decode cL_chance 16 = .ok (.iconst 0, 1) := by decide +kernel
theorem dL_chance_17 : decode cL_chance 17 = .ok (.ireturn, 1) := by decide +kernel
theorem dL_lay_0 : decode cL_lay 0 = .ok (.aload 7, 2) := by decide +kernel
theorem dL_lay_2 : decode cL_lay 2 = .ok (.iconst 0, 1) := by decide +kernel
theorem dL_lay_3 : decode cL_lay 3 = .ok (.aload_n 0, 1) := by decide +kernel
theorem dL_lay_4 : decode cL_lay 4 = .ok (.iload_n 1, 1) := by decide +kernel
theorem dL_lay_5 : decode cL_lay 5 = .ok (.iload_n 2, 1) := by decide +kernel
theorem dL_lay_6 : decode cL_lay 6 = .ok (.iload_n 3, 1) := by decide +kernel
theorem dL_lay_7 : decode cL_lay 7 = .ok (.iload 4, 2) := by decide +kernel
theorem dL_lay_9 : decode cL_lay 9 = .ok (.iload 5, 2) := by decide +kernel
theorem dL_lay_11 : decode cL_lay 11 = .ok (.iload 6, 2) := by decide +kernel
theorem dL_lay_13 : decode cL_lay 13 = .ok (.invokevirtual 31, 3) := by decide +kernel
theorem dL_lay_16 : decode cL_lay 16 = .ok (.i2l, 1) := by decide +kernel
theorem dL_lay_17 : decode cL_lay 17 = .ok (.lastore, 1) := by decide +kernel
theorem dL_lay_18 : decode cL_lay 18 = .ok (.goto 15, 3) := by decide +kernel
theorem dL_lay_21 : decode cL_lay 21 = .ok (.astore 8, 2) := by decide +kernel
theorem dL_lay_23 : decode cL_lay 23 = .ok (.iconst 1, 1) := by decide +kernel
theorem dL_lay_24 : decode cL_lay 24 = .ok (.ireturn, 1) := by decide +kernel
theorem dL_lay_25 : decode cL_lay 25 = .ok (.astore 8, 2) := by decide +kernel
theorem dL_lay_27 : decode cL_lay 27 = .ok (.iconst 2, 1) := by decide +kernel
theorem dL_lay_28 : decode cL_lay 28 = .ok (.ireturn, 1) := by decide +kernel
theorem dL_lay_29 : decode cL_lay 29 = .ok (.astore 8, 2) := by decide +kernel
theorem dL_lay_31 : decode cL_lay 31 = .ok (.iconst 3, 1) := by decide +kernel
theorem dL_lay_32 : decode cL_lay 32 = .ok (.ireturn, 1) := by decide +kernel
theorem dL_lay_33 : decode cL_lay 33 = .ok (.iconst 0, 1) := by decide +kernel
theorem dL_lay_34 : decode cL_lay 34 = .ok (.ireturn, 1) := by decide +kernel
theorem dL_takeBack_0 : decode cL_takeBack 0 = .ok (.aload_n 2, 1) := by decide +kernel
