theorem dX8_isVoided_0 : decode cX8_isVoided 0 = .ok (.iconst 5, 1) := by decide +kernel
theorem dX8_isVoided_1 : decode cX8_isVoided 1 = .ok (.iload_n 1, 1) := by decide +kernel
theorem dX8_isVoided_2 : decode cX8_isVoided 2 = .ok (.imul, 1) := by decide +kernel
theorem dX8_isVoided_3 : decode cX8_isVoided 3 = .ok (.iload_n 2, 1) := by decide +kernel
theorem dX8_isVoided_4 : decode cX8_isVoided 4 = .ok (.iadd, 1) := by decide +kernel
theorem dX8_isVoided_5 : decode cX8_isVoided 5 = .ok (.istore_n 3, 1) := by decide +kernel
theorem dX8_isVoided_6 : decode cX8_isVoided 6 = .ok (.aload_n 0, 1) := by decide +kernel
theorem dX8_isVoided_7 : decode cX8_isVoided 7 = .ok (.getfield 106, 3) := by decide +kernel
theorem dX8_isVoided_10 : decode cX8_isVoided 10 = .ok (.iload_n 3, 1) := by decide +kernel
theorem dX8_isVoided_11 : decode cX8_isVoided 11 = .ok (.iaload, 1) := by decide +kernel
theorem dX8_isVoided_12 : decode cX8_isVoided 12 = .ok (.iconst (-1), 1) := by decide +kernel
theorem dX8_isVoided_13 : decode cX8_isVoided 13 = .ok (.if_icmp .eq 15, 3) := by decide +kernel
theorem dX8_isVoided_16 : decode cX8_isVoided 16 = .ok (.aload_n 0, 1) := by decide +kernel
theorem dX8_isVoided_17 : decode cX8_isVoided 17 = .ok (.getfield 343, 3) := by decide +kernel
theorem dX8_isVoided_20 : decode cX8_isVoided 20 = .ok (.iload_n 2, 1) := by decide +kernel
theorem dX8_isVoided_21 : decode cX8_isVoided 21 = .ok (.ishr, 1) := by decide +kernel
theorem dX8_isVoided_22 : decode cX8_isVoided 22 = .ok (.iconst 1, 1) := by decide +kernel
theorem dX8_isVoided_23 : decode cX8_isVoided 23 = .ok (.iand, 1) := by decide +kernel
theorem dX8_isVoided_24 : decode cX8_isVoided 24 = .ok (.iconst 1, 1) := by decide +kernel
theorem dX8_isVoided_25 : decode cX8_isVoided 25 = .ok (.if_icmp .ne 5, 3) := by decide +kernel
theorem dX8_isVoided_28 : decode cX8_isVoided 28 = .ok (.iconst 0, 1) := by decide +kernel
theorem dX8_isVoided_29 : decode cX8_isVoided 29 = .ok (.ireturn, 1) := by decide +kernel
theorem dX8_isVoided_30 : decode cX8_isVoided 30 = .ok (.iload_n 1, 1) := by decide +kernel
theorem dX8_isVoided_31 : decode cX8_isVoided 31 = .ok (.aload_n 0, 1) := by decide +kernel
theorem dX8_isVoided_32 : decode cX8_isVoided 32 = .ok (.getfield 103, 3) := by decide +kernel
theorem dX8_isVoided_35 : decode cX8_isVoided 35 = .ok (.if_icmp .ne 17, 3) := by decide +kernel
theorem dX8_isVoided_38 : decode cX8_isVoided 38 = .ok (.aload_n 0, 1) := by decide +kernel
theorem dX8_isVoided_39 : decode cX8_isVoided 39 = .ok (.getfield 340, 3) := by decide +kernel
theorem dX8_isVoided_42 : decode cX8_isVoided 42 = .ok (.iload_n 2, 1) := by decide +kernel
theorem dX8_isVoided_43 : decode cX8_isVoided 43 = .ok (.ishr, 1) := by decide +kernel
theorem dX8_isVoided_44 : decode cX8_isVoided 44 = .ok (.iconst 1, 1) := by decide +kernel
theorem dX8_isVoided_45 : decode cX8_isVoided 45 = .ok (.iand, 1) := by decide +kernel
theorem dX8_isVoided_46 : decode cX8_isVoided 46 = .ok (.iconst 1, 1) := by decide +kernel
theorem dX8_isVoided_47 : decode cX8_isVoided 47 = .ok (.if_icmp .ne 5, 3) := by decide +kernel
theorem dX8_isVoided_50 : decode cX8_isVoided 50 = .ok (.iconst 1, 1) := by decide +kernel
theorem dX8_isVoided_51 : decode cX8_isVoided 51 = .ok (.ireturn, 1) := by decide +kernel
theorem dX8_isVoided_52 : decode cX8_isVoided 52 = .ok (.iconst 0, 1) := by decide +kernel
theorem dX8_isVoided_53 : decode cX8_isVoided 53 = .ok (.istore 4, 2) := by decide +kernel
theorem dX8_isVoided_55 : decode cX8_isVoided 55 = .ok (.iload 4, 2) := by decide +kernel
theorem dX8_isVoided_57 : decode cX8_isVoided 57 = .ok (.aload_n 0, 1) := by decide +kernel
theorem dX8_isVoided_58 : decode cX8_isVoided 58 = .ok (.getfield 49, 3) := by decide +kernel
theorem dX8_isVoided_61 : decode cX8_isVoided 61 = .ok (.iload_n 2, 1) := by decide +kernel
theorem dX8_isVoided_62 : decode cX8_isVoided 62 = .ok (.iaload, 1) := by decide +kernel
theorem dX8_isVoided_63 : decode cX8_isVoided 63 = .ok (.if_icmp .ge 149, 3) := by decide +kernel
theorem dX8_isVoided_66 : decode cX8_isVoided 66 = .ok (.aload_n 0, 1) := by decide +kernel
theorem dX8_isVoided_67 : decode cX8_isVoided 67 = .ok (.getfield 94, 3) := by decide +kernel
theorem dX8_isVoided_70 : decode cX8_isVoided 70 = .ok (.bipush 7, 2) := by decide +kernel
theorem dX8_isVoided_72 : decode cX8_isVoided 72 = .ok (.iload_n 2, 1) := by decide +kernel
theorem dX8_isVoided_73 : decode cX8_isVoided 73 = .ok (.imul, 1) := by decide +kernel
theorem dX8_isVoided_74 : decode cX8_isVoided 74 = .ok (.iload 4, 2) := by decide +kernel
theorem dX8_isVoided_76 : decode cX8_isVoided 76 = .ok (.iadd, 1) := by decide +kernel
theorem dX8_isVoided_77 : decode cX8_isVoided 77 = .ok (.iaload, 1) := by decide +kernel
theorem dX8_isVoided_78 : decode cX8_isVoided 78 = .ok (.aload_n 0, 1) := by decide +kernel
theorem dX8_isVoided_79 : decode cX8_isVoided 79 = .ok (.getfield 108, 3) := by decide +kernel
theorem dX8_isVoided_82 : decode cX8_isVoided 82 = .ok (.iload_n 3, 1) := by decide +kernel
theorem dX8_isVoided_83 : decode cX8_isVoided 83 = .ok (.iaload, 1) := by decide +kernel
theorem dX8_isVoided_84 : decode cX8_isVoided 84 = .ok (.if_icmp .gt 128, 3) := by decide +kernel
theorem dX8_isVoided_87 : decode cX8_isVoided 87 = .ok (.aload_n 0, 1) := by decide +kernel
theorem dX8_isVoided_88 : decode cX8_isVoided 88 = .ok (.getfield 91, 3) := by decide +kernel
theorem dX8_isVoided_91 : decode cX8_isVoided 91 = .ok (.bipush 7, 2) := by decide +kernel
theorem dX8_isVoided_93 : decode cX8_isVoided 93 = .ok (.iload_n 2, 1) := by decide +kernel
theorem dX8_isVoided_94 : decode cX8_isVoided 94 = .ok (.imul, 1) := by decide +kernel
theorem dX8_isVoided_95 : decode cX8_isVoided 95 = .ok (.iload 4, 2) := by decide +kernel
theorem dX8_isVoided_97 : decode cX8_isVoided 97 = .ok (.iadd, 1) := by decide +kernel
theorem dX8_isVoided_98 : decode cX8_isVoided 98 = .ok (.iaload, 1) := by decide +kernel
theorem dX8_isVoided_99 : decode cX8_isVoided 99 = .ok (.istore 5, 2) := by decide +kernel
theorem dX8_isVoided_101 : decode cX8_isVoided 101 = .ok (.aload_n 0, 1) := by decide +kernel
theorem dX8_isVoided_102 : decode cX8_isVoided 102 = .ok (.getfield 94, 3) := by decide +kernel
theorem dX8_isVoided_105 : decode cX8_isVoided 105 = .ok (.bipush 7, 2) := by decide +kernel
theorem dX8_isVoided_107 : decode cX8_isVoided 107 = .ok (.iload_n 2, 1) := by decide +kernel
theorem dX8_isVoided_108 : decode cX8_isVoided 108 = .ok (.imul, 1) := by decide +kernel
theorem dX8_isVoided_109 : decode cX8_isVoided 109 = .ok (.iload 4, 2) := by decide +kernel
theorem dX8_isVoided_111 : decode cX8_isVoided 111 = .ok (.iadd, 1) := by decide +kernel
theorem dX8_isVoided_112 : decode cX8_isVoided 112 = .ok (.iaload, 1) := by decide +kernel
theorem dX8_isVoided_113 : decode cX8_isVoided 113 = .ok (.istore 6, 2) := by decide +kernel
theorem dX8_isVoided_115 : decode cX8_isVoided 115 = .ok (.aload_n 0, 1) := by decide +kernel
theorem dX8_isVoided_116 : decode cX8_isVoided 116 = .ok (.iload_n 1, 1) := by decide +kernel
theorem dX8_isVoided_117 : decode cX8_isVoided 117 = .ok (.iload 5, 2) := by decide +kernel
theorem dX8_isVoided_119 : decode cX8_isVoided 119 = .ok (.invokevirtual 369, 3) := by decide +kernel
theorem dX8_isVoided_122 : decode cX8_isVoided 122 = .ok (.iload 6, 2) := by decide +kernel
theorem dX8_isVoided_124 : decode cX8_isVoided 124 = .ok (.if_icmp .gt 5, 3) := by decide +kernel
theorem dX8_isVoided_127 : decode cX8_isVoided 127 = .ok (.iconst 1, 1) := by decide +kernel
theorem dX8_isVoided_128 : decode cX8_isVoided 128 = .ok (.ireturn, 1) := by decide +kernel
theorem dX8_isVoided_129 : decode cX8_isVoided 129 = .ok (.iconst 0, 1) := by decide +kernel
theorem dX8_isVoided_130 : decode cX8_isVoided 130 = .ok (.istore 7, 2) := by decide +kernel
theorem dX8_isVoided_132 : decode cX8_isVoided 132 = .ok (.iload 7, 2) := by decide +kernel
theorem dX8_isVoided_134 : decode cX8_isVoided 134 = .ok (.aload_n 0, 1) := by decide +kernel
theorem dX8_isVoided_135 : decode cX8_isVoided 135 = .ok (.getfield 34, 3) := by decide +kernel
theorem dX8_isVoided_138 : decode cX8_isVoided 138 = .ok (.iconst 4, 1) := by decide +kernel
theorem dX8_isVoided_139 : decode cX8_isVoided 139 = .ok (.iaload, 1) := by decide +kernel
theorem dX8_isVoided_140 : decode cX8_isVoided 140 = .ok (.if_icmp .ge 66, 3) := by decide +kernel
theorem dX8_isVoided_143 : decode cX8_isVoided 143 = .ok (.iload 7, 2) := by decide +kernel
theorem dX8_isVoided_145 : decode cX8_isVoided 145 = .ok (.iload_n 2, 1) := by decide +kernel
theorem dX8_isVoided_146 : decode cX8_isVoided 146 = .ok (.if_icmp .eq 54, 3) := by decide +kernel
theorem dX8_isVoided_149 : decode cX8_isVoided 149 = .ok (.aload_n 0, 1) := by decide +kernel
theorem dX8_isVoided_150 : decode cX8_isVoided 150 = .ok (.getfield 106, 3) := by decide +kernel
theorem dX8_isVoided_153 : decode cX8_isVoided 153 = .ok (.iconst 5, 1) := by decide +kernel
theorem dX8_isVoided_154 : decode cX8_isVoided 154 = .ok (.iload_n 1, 1) := by decide +kernel
theorem dX8_isVoided_155 : decode cX8_isVoided 155 = .ok (.imul, 1) := by decide +kernel
theorem dX8_isVoided_156 : decode cX8_isVoided 156 = .ok (.iload 7, 2) := by decide +kernel
theorem dX8_isVoided_158 : decode cX8_isVoided 158 = .ok (.iadd, 1) := by decide +kernel
theorem dX8_isVoided_159 : decode cX8_isVoided 159 = .ok (.iaload, 1) := by decide +kernel
theorem dX8_isVoided_160 : decode cX8_isVoided 160 = .ok (.iconst (-1), 1) := by decide +kernel
theorem dX8_isVoided_161 : decode cX8_isVoided 161 = .ok (.if_icmp .eq 39, 3) := by decide +kernel
theorem dX8_isVoided_164 : decode cX8_isVoided 164 = .ok (.aload_n 0, 1) := by decide +kernel
theorem dX8_isVoided_165 : decode cX8_isVoided 165 = .ok (.getfield 108, 3) := by decide +kernel
theorem dX8_isVoided_168 : decode cX8_isVoided 168 = .ok (.iconst 5, 1) := by decide +kernel
theorem dX8_isVoided_169 : decode cX8_isVoided 169 = .ok (.iload_n 1, 1) := by decide +kernel
theorem dX8_isVoided_170 : decode cX8_isVoided 170 = .ok (.imul, 1) := by decide +kernel
theorem dX8_isVoided_171 : decode cX8_isVoided 171 = .ok (.iload 7, 2) := by decide +kernel
theorem dX8_isVoided_173 : decode cX8_isVoided 173 = .ok (.iadd, 1) := by decide +kernel
theorem dX8_isVoided_174 : decode cX8_isVoided 174 = .ok (.iaload, 1) := by decide +kernel
theorem dX8_isVoided_175 : decode cX8_isVoided 175 = .ok (.aload_n 0, 1) := by decide +kernel
theorem dX8_isVoided_176 : decode cX8_isVoided 176 = .ok (.getfield 108, 3) := by decide +kernel
theorem dX8_isVoided_179 : decode cX8_isVoided 179 = .ok (.iload_n 3, 1) := by decide +kernel
theorem dX8_isVoided_180 : decode cX8_isVoided 180 = .ok (.iaload, 1) := by decide +kernel
theorem dX8_isVoided_181 : decode cX8_isVoided 181 = .ok (.if_icmp .ge 19, 3) := by decide +kernel
theorem dX8_isVoided_184 : decode cX8_isVoided 184 = .ok (.aload_n 0, 1) := by decide +kernel
theorem dX8_isVoided_185 : decode cX8_isVoided 185 = .ok (.iload_n 1, 1) := by decide +kernel
theorem dX8_isVoided_186 : decode cX8_isVoided 186 = .ok (.iload 7, 2) := by decide +kernel
theorem dX8_isVoided_188 : decode cX8_isVoided 188 = .ok (.iload 5, 2) := by decide +kernel
theorem dX8_isVoided_190 : decode cX8_isVoided 190 = .ok (.invokevirtual 372, 3) := by decide +kernel
theorem dX8_isVoided_193 : decode cX8_isVoided 193 = .ok (.iload 6, 2) := by decide +kernel
theorem dX8_isVoided_195 : decode cX8_isVoided 195 = .ok (.if_icmp .gt 5, 3) := by decide +kernel
theorem dX8_isVoided_198 : decode cX8_isVoided 198 = .ok (.iconst 1, 1) := by decide +kernel
theorem dX8_isVoided_199 : decode cX8_isVoided 199 = .ok (.ireturn, 1) := by decide +kernel
theorem dX8_isVoided_200 : decode cX8_isVoided 200 = .ok (.iinc 7 1, 3) := by decide +kernel
theorem dX8_isVoided_203 : decode cX8_isVoided 203 = .ok (.goto (-71), 3) := by decide +kernel
theorem dX8_isVoided_206 : decode cX8_isVoided 206 = .ok (.iinc 4 1, 3) := by decide +kernel
theorem dX8_isVoided_209 : decode cX8_isVoided 209 = .ok (.goto (-154), 3) := by decide +kernel
theorem dX8_isVoided_212 : decode cX8_isVoided 212 = .ok (.iconst 0, 1) := by decide +kernel
theorem dX8_isVoided_213 : decode cX8_isVoided 213 = .ok (.ireturn, 1) := by decide +kernel
theorem dX8_isGood_0 : decode cX8_isGood 0 = .ok (.iconst 5, 1) := by decide +kernel
theorem dX8_isGood_1 : decode cX8_isGood 1 = .ok (.iload_n 1, 1) := by decide +kernel
theorem dX8_isGood_2 : decode cX8_isGood 2 = .ok (.imul, 1) := by decide +kernel
theorem dX8_isGood_3 : decode cX8_isGood 3 = .ok (.iload_n 2, 1) := by decide +kernel
theorem dX8_isGood_4 : decode cX8_isGood 4 = .ok (.iadd, 1) := by decide +kernel
theorem dX8_isGood_5 : decode cX8_isGood 5 = .ok (.istore_n 3, 1) := by decide +kernel
theorem dX8_isGood_6 : decode cX8_isGood 6 = .ok (.aload_n 0, 1) := by decide +kernel
theorem dX8_isGood_7 : decode cX8_isGood 7 = .ok (.getfield 106, 3) := by decide +kernel
theorem dX8_isGood_10 : decode cX8_isGood 10 = .ok (.iload_n 3, 1) := by decide +kernel
theorem dX8_isGood_11 : decode cX8_isGood 11 = .ok (.iaload, 1) := by decide +kernel
theorem dX8_isGood_12 : decode cX8_isGood 12 = .ok (.iconst 1, 1) := by decide +kernel
theorem dX8_isGood_13 : decode cX8_isGood 13 = .ok (.if_icmp .ne 16, 3) := by decide +kernel
theorem dX8_isGood_16 : decode cX8_isGood 16 = .ok (.aload_n 0, 1) := by decide +kernel
theorem dX8_isGood_17 : decode cX8_isGood 17 = .ok (.getfield 114, 3) := by decide +kernel
theorem dX8_isGood_20 : decode cX8_isGood 20 = .ok (.iload_n 3, 1) := by decide +kernel
theorem dX8_isGood_21 : decode cX8_isGood 21 = .ok (.iaload, 1) := by decide +kernel
theorem dX8_isGood_22 : decode cX8_isGood 22 = .ok (.ifCond .ne 7, 3) := by decide +kernel
theorem dX8_isGood_25 : decode cX8_isGood 25 = .ok (.iconst 1, 1) := by decide +kernel
theorem dX8_isGood_26 : decode cX8_isGood 26 = .ok (.goto 4, 3) := by decide +kernel
theorem dX8_isGood_29 : decode cX8_isGood 29 = .ok (.iconst 0, 1) := by decide +kernel
theorem dX8_isGood_30 : decode cX8_isGood 30 = .ok (.ireturn, 1) := by decide +kernel
theorem dX8_three_0 : decode cX8_three 0 = .ok (.iconst 5, 1) := by decide +kernel
theorem dX8_three_1 : decode cX8_three 1 = .ok (.iload_n 1, 1) := by decide +kernel
theorem dX8_three_2 : decode cX8_three 2 = .ok (.imul, 1) := by decide +kernel
theorem dX8_three_3 : decode cX8_three 3 = .ok (.iload_n 2, 1) := by decide +kernel
theorem dX8_three_4 : decode cX8_three 4 = .ok (.iadd, 1) := by decide +kernel
theorem dX8_three_5 : decode cX8_three 5 = .ok (.istore 5, 2) := by decide +kernel
theorem dX8_three_7 : decode cX8_three 7 = .ok (.iconst 5, 1) := by decide +kernel
theorem dX8_three_8 : decode cX8_three 8 = .ok (.iload_n 1, 1) := by decide +kernel
theorem dX8_three_9 : decode cX8_three 9 = .ok (.imul, 1) := by decide +kernel
theorem dX8_three_10 : decode cX8_three 10 = .ok (.iload_n 3, 1) := by decide +kernel
theorem dX8_three_11 : decode cX8_three 11 = .ok (.iadd, 1) := by decide +kernel
theorem dX8_three_12 : decode cX8_three 12 = .ok (.istore 6, 2) := by decide +kernel
theorem dX8_three_14 : decode cX8_three 14 = .ok (.iconst 5, 1) := by decide +kernel
theorem dX8_three_15 : decode cX8_three 15 = .ok (.iload_n 1, 1) := by decide +kernel
theorem dX8_three_16 : decode cX8_three 16 = .ok (.imul, 1) := by decide +kernel
theorem dX8_three_17 : decode cX8_three 17 = .ok (.iload 4, 2) := by decide +kernel
theorem dX8_three_19 : decode cX8_three 19 = .ok (.iadd, 1) := by decide +kernel
theorem dX8_three_20 : decode cX8_three 20 = .ok (.istore 7, 2) := by decide +kernel
theorem dX8_three_22 : decode cX8_three 22 = .ok (.aload_n 0, 1) := by decide +kernel
theorem dX8_three_23 : decode cX8_three 23 = .ok (.iload_n 1, 1) := by decide +kernel
theorem dX8_three_24 : decode cX8_three 24 = .ok (.iload_n 2, 1) := by decide +kernel
theorem dX8_three_25 : decode cX8_three 25 = .ok (.invokevirtual 375, 3) := by decide +kernel
theorem dX8_three_28 : decode cX8_three 28 = .ok (.ifCond .eq 73, 3) := by decide +kernel
theorem dX8_three_31 : decode cX8_three 31 = .ok (.aload_n 0, 1) := by decide +kernel
theorem dX8_three_32 : decode cX8_three 32 = .ok (.iload_n 1, 1) := by decide +kernel
theorem dX8_three_33 : decode cX8_three 33 = .ok (.iload_n 3, 1) := by decide +kernel
theorem dX8_three_34 : decode cX8_three 34 = .ok (.invokevirtual 375, 3) := by decide +kernel
theorem dX8_three_37 : decode cX8_three 37 = .ok (.ifCond .eq 64, 3) := by decide +kernel
theorem dX8_three_40 : decode cX8_three 40 = .ok (.aload_n 0, 1) := by decide +kernel
theorem dX8_three_41 : decode cX8_three 41 = .ok (.iload_n 1, 1) := by decide +kernel
theorem dX8_three_42 : decode cX8_three 42 = .ok (.iload 4, 2) := by decide +kernel
theorem dX8_three_44 : decode cX8_three 44 = .ok (.invokevirtual 375, 3) := by decide +kernel
theorem dX8_three_47 : decode cX8_three 47 = .ok (.ifCond .eq 54, 3) := by decide +kernel
theorem dX8_three_50 : decode cX8_three 50 = .ok (.aload_n 0, 1) := by decide +kernel
theorem dX8_three_51 : decode cX8_three 51 = .ok (.getfield 111, 3) := by decide +kernel
theorem dX8_three_54 : decode cX8_three 54 = .ok (.iload 5, 2) := by decide +kernel
theorem dX8_three_56 : decode cX8_three 56 = .ok (.iaload, 1) := by decide +kernel
theorem dX8_three_57 : decode cX8_three 57 = .ok (.aload_n 0, 1) := by decide +kernel
theorem dX8_three_58 : decode cX8_three 58 = .ok (.getfield 111, 3) := by decide +kernel
theorem dX8_three_61 : decode cX8_three 61 = .ok (.iload 6, 2) := by decide +kernel
theorem dX8_three_63 : decode cX8_three 63 = .ok (.iaload, 1) := by decide +kernel
theorem dX8_three_64 : decode cX8_three 64 = .ok (.if_icmp .eq 37, 3) := by decide +kernel
theorem dX8_three_67 : decode cX8_three 67 = .ok (.aload_n 0, 1) := by decide +kernel
theorem dX8_three_68 : decode cX8_three 68 = .ok (.getfield 111, 3) := by decide +kernel
theorem dX8_three_71 : decode cX8_three 71 = .ok (.iload 5, 2) := by decide +kernel
theorem dX8_three_73 : decode cX8_three 73 = .ok (.iaload, 1) := by decide +kernel
theorem dX8_three_74 : decode cX8_three 74 = .ok (.aload_n 0, 1) := by decide +kernel
theorem dX8_three_75 : decode cX8_three 75 = .ok (.getfield 111, 3) := by decide +kernel
theorem dX8_three_78 : decode cX8_three 78 = .ok (.iload 7, 2) := by decide +kernel
theorem dX8_three_80 : decode cX8_three 80 = .ok (.iaload, 1) := by decide +kernel
theorem dX8_three_81 : decode cX8_three 81 = .ok (.if_icmp .eq 20, 3) := by decide +kernel
theorem dX8_three_84 : decode cX8_three 84 = .ok (.aload_n 0, 1) := by decide +kernel
theorem dX8_three_85 : decode cX8_three 85 = .ok (.getfield 111, 3) := by decide +kernel
theorem dX8_three_88 : decode cX8_three 88 = .ok (.iload 6, 2) := by decide +kernel
theorem dX8_three_90 : decode cX8_three 90 = .ok (.iaload, 1) := by decide +kernel
theorem dX8_three_91 : decode cX8_three 91 = .ok (.aload_n 0, 1) := by decide +kernel
theorem dX8_three_92 : decode cX8_three 92 = .ok (.getfield 111, 3) := by decide +kernel
theorem dX8_three_95 : decode cX8_three 95 = .ok (.iload 7, 2) := by decide +kernel
theorem dX8_three_97 : decode cX8_three 97 = .ok (.iaload, 1) := by decide +kernel
theorem dX8_three_98 : decode cX8_three 98 = .ok (.if_icmp .ne 6, 3) := by decide +kernel
theorem dX8_three_101 : decode cX8_three 101 = .ok (.ldc 186, 2) := by decide +kernel
theorem dX8_three_103 : decode cX8_three 103 = .ok (.ireturn, 1) := by decide +kernel
theorem dX8_three_104 : decode cX8_three 104 = .ok (.aload_n 0, 1) := by decide +kernel
theorem dX8_three_105 : decode cX8_three 105 = .ok (.getfield 108, 3) := by decide +kernel
theorem dX8_three_108 : decode cX8_three 108 = .ok (.iload 5, 2) := by decide +kernel
theorem dX8_three_110 : decode cX8_three 110 = .ok (.iaload, 1) := by decide +kernel
theorem dX8_three_111 : decode cX8_three 111 = .ok (.aload_n 0, 1) := by decide +kernel
theorem dX8_three_112 : decode cX8_three 112 = .ok (.getfield 108, 3) := by decide +kernel
theorem dX8_three_115 : decode cX8_three 115 = .ok (.iload 6, 2) := by decide +kernel
theorem dX8_three_117 : decode cX8_three 117 = .ok (.iaload, 1) := by decide +kernel
theorem dX8_three_118 : decode cX8_three 118 = .ok (.aload_n 0, 1) := by decide +kernel
theorem dX8_three_119 : decode cX8_three 119 = .ok (.getfield 108, 3) := by decide +kernel
theorem dX8_three_122 : decode cX8_three 122 = .ok (.iload 7, 2) := by decide +kernel
theorem dX8_three_124 : decode cX8_three 124 = .ok (.iaload, 1) := by decide +kernel
theorem dX8_three_125 : decode cX8_three 125 = .ok (.invokestatic 378, 3) := by decide +kernel
theorem dX8_three_128 : decode cX8_three 128 = .ok (.invokestatic 378, 3) := by decide +kernel
theorem dX8_three_131 : decode cX8_three 131 = .ok (.istore 8, 2) := by decide +kernel
theorem dX8_three_133 : decode cX8_three 133 = .ok (.aload_n 0, 1) := by decide +kernel
theorem dX8_three_134 : decode cX8_three 134 = .ok (.getfield 97, 3) := by decide +kernel
theorem dX8_three_137 : decode cX8_three 137 = .ok (.iconst 5, 1) := by decide +kernel
theorem dX8_three_138 : decode cX8_three 138 = .ok (.iload_n 2, 1) := by decide +kernel
theorem dX8_three_139 : decode cX8_three 139 = .ok (.imul, 1) := by decide +kernel
theorem dX8_three_140 : decode cX8_three 140 = .ok (.iload_n 3, 1) := by decide +kernel
theorem dX8_three_141 : decode cX8_three 141 = .ok (.iadd, 1) := by decide +kernel
theorem dX8_three_142 : decode cX8_three 142 = .ok (.iaload, 1) := by decide +kernel
theorem dX8_three_143 : decode cX8_three 143 = .ok (.iload 8, 2) := by decide +kernel
theorem dX8_three_145 : decode cX8_three 145 = .ok (.if_icmp .le 40, 3) := by decide +kernel
theorem dX8_three_148 : decode cX8_three 148 = .ok (.aload_n 0, 1) := by decide +kernel
theorem dX8_three_149 : decode cX8_three 149 = .ok (.getfield 97, 3) := by decide +kernel
theorem dX8_three_152 : decode cX8_three 152 = .ok (.iconst 5, 1) := by decide +kernel
theorem dX8_three_153 : decode cX8_three 153 = .ok (.iload_n 2, 1) := by decide +kernel
theorem dX8_three_154 : decode cX8_three 154 = .ok (.imul, 1) := by decide +kernel
theorem dX8_three_155 : decode cX8_three 155 = .ok (.iload 4, 2) := by decide +kernel
theorem dX8_three_157 : decode cX8_three 157 = .ok (.iadd, 1) := by decide +kernel
theorem dX8_three_158 : decode cX8_three 158 = .ok (.iaload, 1) := by decide +kernel
theorem dX8_three_159 : decode cX8_three 159 = .ok (.iload 8, 2) := by decide +kernel
theorem dX8_three_161 : decode cX8_three 161 = .ok (.if_icmp .le 24, 3) := by decide +kernel
theorem dX8_three_164 : decode cX8_three 164 = .ok (.aload_n 0, 1) := by decide +kernel
theorem dX8_three_165 : decode cX8_three 165 = .ok (.getfield 97, 3) := by decide +kernel
theorem dX8_three_168 : decode cX8_three 168 = .ok (.iconst 5, 1) := by decide +kernel
theorem dX8_three_169 : decode cX8_three 169 = .ok (.iload_n 3, 1) := by decide +kernel
theorem dX8_three_170 : decode cX8_three 170 = .ok (.imul, 1) := by decide +kernel
theorem dX8_three_171 : decode cX8_three 171 = .ok (.iload 4, 2) := by decide +kernel
theorem dX8_three_173 : decode cX8_three 173 = .ok (.iadd, 1) := by decide +kernel
theorem dX8_three_174 : decode cX8_three 174 = .ok (.iaload, 1) := by decide +kernel
theorem dX8_three_175 : decode cX8_three 175 = .ok (.iload 8, 2) := by decide +kernel
theorem dX8_three_177 : decode cX8_three 177 = .ok (.if_icmp .le 8, 3) := by decide +kernel
theorem dX8_three_180 : decode cX8_three 180 = .ok (.iload 8, 2) := by decide +kernel
theorem dX8_three_182 : decode cX8_three 182 = .ok (.goto 5, 3) := by decide +kernel
theorem dX8_three_185 : decode cX8_three 185 = .ok (.ldc 186, 2) := by decide +kernel
theorem dX8_three_187 : decode cX8_three 187 = .ok (.ireturn, 1) := by decide +kernel
theorem dX8_judgeCase_0 : decode cX8_judgeCase 0 = .ok (.iconst 0, 1) := by decide +kernel
theorem dX8_judgeCase_1 : decode cX8_judgeCase 1 = .ok (.istore_n 2, 1) := by decide +kernel
theorem dX8_judgeCase_2 : decode cX8_judgeCase 2 = .ok (.iload_n 2, 1) := by decide +kernel
theorem dX8_judgeCase_3 : decode cX8_judgeCase 3 = .ok (.aload_n 0, 1) := by decide +kernel
theorem dX8_judgeCase_4 : decode cX8_judgeCase 4 = .ok (.getfield 34, 3) := by decide +kernel
theorem dX8_judgeCase_7 : decode cX8_judgeCase 7 = .ok (.iconst 4, 1) := by decide +kernel
theorem dX8_judgeCase_8 : decode cX8_judgeCase 8 = .ok (.iaload, 1) := by decide +kernel
theorem dX8_judgeCase_9 : decode cX8_judgeCase 9 = .ok (.if_icmp .ge 33, 3) := by decide +kernel
theorem dX8_judgeCase_12 : decode cX8_judgeCase 12 = .ok (.aload_n 0, 1) := by decide +kernel
theorem dX8_judgeCase_13 : decode cX8_judgeCase 13 = .ok (.getfield 114, 3) := by decide +kernel
theorem dX8_judgeCase_16 : decode cX8_judgeCase 16 = .ok (.iconst 5, 1) := by decide +kernel
theorem dX8_judgeCase_17 : decode cX8_judgeCase 17 = .ok (.iload_n 1, 1) := by decide +kernel
theorem dX8_judgeCase_18 : decode cX8_judgeCase 18 = .ok (.imul, 1) := by decide +kernel
theorem dX8_judgeCase_19 : decode cX8_judgeCase 19 = .ok (.iload_n 2, 1) := by decide +kernel
theorem dX8_judgeCase_20 : decode cX8_judgeCase 20 = .ok (.iadd, 1) := by decide +kernel
theorem dX8_judgeCase_21 : decode cX8_judgeCase 21 = .ok (.aload_n 0, 1) := by decide +kernel
theorem dX8_judgeCase_22 : decode cX8_judgeCase 22 = .ok (.iload_n 1, 1) := by decide +kernel
theorem dX8_judgeCase_23 : decode cX8_judgeCase 23 = .ok (.iload_n 2, 1) := by decide +kernel
theorem dX8_judgeCase_24 : decode cX8_judgeCase 24 = .ok (.invokevirtual 381, 3) := by decide +kernel
theorem dX8_judgeCase_27 : decode cX8_judgeCase 27 = .ok (.ifCond .eq 7, 3) := by decide +kernel
theorem dX8_judgeCase_30 : decode cX8_judgeCase 30 = .ok (.iconst 1, 1) := by decide +kernel
theorem dX8_judgeCase_31 : decode cX8_judgeCase 31 = .ok (.goto 4, 3) := by decide +kernel
theorem dX8_judgeCase_34 : decode cX8_judgeCase 34 = .ok (.iconst 0, 1) := by decide +kernel
theorem dX8_judgeCase_35 : decode cX8_judgeCase 35 = .ok (.iastore, 1) := by decide +kernel
theorem dX8_judgeCase_36 : decode cX8_judgeCase 36 = .ok (.iinc 2 1, 3) := by decide +kernel
theorem dX8_judgeCase_39 : decode cX8_judgeCase 39 = .ok (.goto (-37), 3) := by decide +kernel
theorem dX8_judgeCase_42 : decode cX8_judgeCase 42 = .ok (.aload_n 0, 1) := by decide +kernel
theorem dX8_judgeCase_43 : decode cX8_judgeCase 43 = .ok (.getfield 117, 3) := by decide +kernel
theorem dX8_judgeCase_46 : decode cX8_judgeCase 46 = .ok (.iload_n 1, 1) := by decide +kernel
theorem dX8_judgeCase_47 : decode cX8_judgeCase 47 = .ok (.ldc 186, 2) := by decide +kernel
theorem dX8_judgeCase_49 : decode cX8_judgeCase 49 = .ok (.iastore, 1) := by decide +kernel
theorem dX8_judgeCase_50 : decode cX8_judgeCase 50 = .ok (.aload_n 0, 1) := by decide +kernel
theorem dX8_judgeCase_51 : decode cX8_judgeCase 51 = .ok (.getfield 120, 3) := by decide +kernel
theorem dX8_judgeCase_54 : decode cX8_judgeCase 54 = .ok (.iload_n 1, 1) := by decide +kernel
theorem dX8_judgeCase_55 : decode cX8_judgeCase 55 = .ok (.iconst 0, 1) := by decide +kernel
theorem dX8_judgeCase_56 : decode cX8_judgeCase 56 = .ok (.iastore, 1) := by decide +kernel
theorem dX8_judgeCase_57 : decode cX8_judgeCase 57 = .ok (.iconst 0, 1) := by decide +kernel
theorem dX8_judgeCase_58 : decode cX8_judgeCase 58 = .ok (.istore_n 2, 1) := by decide +kernel
theorem dX8_judgeCase_59 : decode cX8_judgeCase 59 = .ok (.iload_n 2, 1) := by decide +kernel
theorem dX8_judgeCase_60 : decode cX8_judgeCase 60 = .ok (.aload_n 0, 1) := by decide +kernel
theorem dX8_judgeCase_61 : decode cX8_judgeCase 61 = .ok (.getfield 34, 3) := by decide +kernel
theorem dX8_judgeCase_64 : decode cX8_judgeCase 64 = .ok (.iconst 4, 1) := by decide +kernel
theorem dX8_judgeCase_65 : decode cX8_judgeCase 65 = .ok (.iaload, 1) := by decide +kernel
theorem dX8_judgeCase_66 : decode cX8_judgeCase 66 = .ok (.if_icmp .ge 102, 3) := by decide +kernel
theorem dX8_judgeCase_69 : decode cX8_judgeCase 69 = .ok (.iload_n 2, 1) := by decide +kernel
theorem dX8_judgeCase_70 : decode cX8_judgeCase 70 = .ok (.iconst 1, 1) := by decide +kernel
theorem dX8_judgeCase_71 : decode cX8_judgeCase 71 = .ok (.iadd, 1) := by decide +kernel
theorem dX8_judgeCase_72 : decode cX8_judgeCase 72 = .ok (.istore_n 3, 1) := by decide +kernel
theorem dX8_judgeCase_73 : decode cX8_judgeCase 73 = .ok (.iload_n 3, 1) := by decide +kernel
theorem dX8_judgeCase_74 : decode cX8_judgeCase 74 = .ok (.aload_n 0, 1) := by decide +kernel
theorem dX8_judgeCase_75 : decode cX8_judgeCase 75 = .ok (.getfield 34, 3) := by decide +kernel
theorem dX8_judgeCase_78 : decode cX8_judgeCase 78 = .ok (.iconst 4, 1) := by decide +kernel
theorem dX8_judgeCase_79 : decode cX8_judgeCase 79 = .ok (.iaload, 1) := by decide +kernel
theorem dX8_judgeCase_80 : decode cX8_judgeCase 80 = .ok (.if_icmp .ge 82, 3) := by decide +kernel
theorem dX8_judgeCase_83 : decode cX8_judgeCase 83 = .ok (.iload_n 3, 1) := by decide +kernel
theorem dX8_judgeCase_84 : decode cX8_judgeCase 84 = .ok (.iconst 1, 1) := by decide +kernel
theorem dX8_judgeCase_85 : decode cX8_judgeCase 85 = .ok (.iadd, 1) := by decide +kernel
theorem dX8_judgeCase_86 : decode cX8_judgeCase 86 = .ok (.istore 4, 2) := by decide +kernel
theorem dX8_judgeCase_88 : decode cX8_judgeCase 88 = .ok (.iload 4, 2) := by decide +kernel
theorem dX8_judgeCase_90 : decode cX8_judgeCase 90 = .ok (.aload_n 0, 1) := by decide +kernel
theorem dX8_judgeCase_91 : decode cX8_judgeCase 91 = .ok (.getfield 34, 3) := by decide +kernel
theorem dX8_judgeCase_94 : decode cX8_judgeCase 94 = .ok (.iconst 4, 1) := by decide +kernel
theorem dX8_judgeCase_95 : decode cX8_judgeCase 95 = .ok (.iaload, 1) := by decide +kernel
theorem dX8_judgeCase_96 : decode cX8_judgeCase 96 = .ok (.if_icmp .ge 60, 3) := by decide +kernel
theorem dX8_judgeCase_99 : decode cX8_judgeCase 99 = .ok (.aload_n 0, 1) := by decide +kernel
theorem dX8_judgeCase_100 : decode cX8_judgeCase 100 = .ok (.iload_n 1, 1) := by decide +kernel
theorem dX8_judgeCase_101 : decode cX8_judgeCase 101 = .ok (.iload_n 2, 1) := by decide +kernel
theorem dX8_judgeCase_102 : decode cX8_judgeCase 102 = .ok (.iload_n 3, 1) := by decide +kernel
theorem dX8_judgeCase_103 : decode cX8_judgeCase 103 = .ok (.iload 4, 2) := by decide +kernel
theorem dX8_judgeCase_105 : decode cX8_judgeCase 105 = .ok (.invokevirtual 384, 3) := by decide +kernel
theorem dX8_judgeCase_108 : decode cX8_judgeCase 108 = .ok (.istore 5, 2) := by decide +kernel
theorem dX8_judgeCase_110 : decode cX8_judgeCase 110 = .ok (.iload 5, 2) := by decide +kernel
theorem dX8_judgeCase_112 : decode cX8_judgeCase 112 = .ok (.aload_n 0, 1) := by decide +kernel
theorem dX8_judgeCase_113 : decode cX8_judgeCase 113 = .ok (.getfield 117, 3) := by decide +kernel
theorem dX8_judgeCase_116 : decode cX8_judgeCase 116 = .ok (.iload_n 1, 1) := by decide +kernel
theorem dX8_judgeCase_117 : decode cX8_judgeCase 117 = .ok (.iaload, 1) := by decide +kernel
theorem dX8_judgeCase_118 : decode cX8_judgeCase 118 = .ok (.if_icmp .lt 6, 3) := by decide +kernel
theorem dX8_judgeCase_121 : decode cX8_judgeCase 121 = .ok (.goto 29, 3) := by decide +kernel
theorem dX8_judgeCase_124 : decode cX8_judgeCase 124 = .ok (.aload_n 0, 1) := by decide +kernel
theorem dX8_judgeCase_125 : decode cX8_judgeCase 125 = .ok (.getfield 117, 3) := by decide +kernel
theorem dX8_judgeCase_128 : decode cX8_judgeCase 128 = .ok (.iload_n 1, 1) := by decide +kernel
theorem dX8_judgeCase_129 : decode cX8_judgeCase 129 = .ok (.iload 5, 2) := by decide +kernel
theorem dX8_judgeCase_131 : decode cX8_judgeCase 131 = .ok (.iastore, 1) := by decide +kernel
theorem dX8_judgeCase_132 : decode cX8_judgeCase 132 = .ok (.aload_n 0, 1) := by decide +kernel
theorem dX8_judgeCase_133 : decode cX8_judgeCase 133 = .ok (.getfield 120, 3) := by decide +kernel
theorem dX8_judgeCase_136 : decode cX8_judgeCase 136 = .ok (.iload_n 1, 1) := by decide +kernel
theorem dX8_judgeCase_137 : decode cX8_judgeCase 137 = .ok (.iconst 1, 1) := by decide +kernel
theorem dX8_judgeCase_138 : decode cX8_judgeCase 138 = .ok (.iload_n 2, 1) := by decide +kernel
theorem dX8_judgeCase_139 : decode cX8_judgeCase 139 = .ok (.ishl, 1) := by decide +kernel
theorem dX8_judgeCase_140 : decode cX8_judgeCase 140 = .ok (.iconst 1, 1) := by decide +kernel
theorem dX8_judgeCase_141 : decode cX8_judgeCase 141 = .ok (.iload_n 3, 1) := by decide +kernel
theorem dX8_judgeCase_142 : decode cX8_judgeCase 142 = .ok (.ishl, 1) := by decide +kernel
theorem dX8_judgeCase_143 : decode cX8_judgeCase 143 = .ok (.ior, 1) := by decide +kernel
theorem dX8_judgeCase_144 : decode cX8_judgeCase 144 = .ok (.iconst 1, 1) := by decide +kernel
theorem dX8_judgeCase_145 : decode cX8_judgeCase 145 = .ok (.iload 4, 2) := by decide +kernel
theorem dX8_judgeCase_147 : decode cX8_judgeCase 147 = .ok (.ishl, 1) := by decide +kernel
theorem dX8_judgeCase_148 : decode cX8_judgeCase 148 = .ok (.ior, 1) := by decide +kernel
theorem dX8_judgeCase_149 : decode cX8_judgeCase 149 = .ok (.iastore, 1) := by decide +kernel
theorem dX8_judgeCase_150 : decode cX8_judgeCase 150 = .ok (.iinc 4 1, 3) := by decide +kernel
theorem dX8_judgeCase_153 : decode cX8_judgeCase 153 = .ok (.goto (-65), 3) := by decide +kernel
theorem dX8_judgeCase_156 : decode cX8_judgeCase 156 = .ok (.iinc 3 1, 3) := by decide +kernel
theorem dX8_judgeCase_159 : decode cX8_judgeCase 159 = .ok (.goto (-86), 3) := by decide +kernel
theorem dX8_judgeCase_162 : decode cX8_judgeCase 162 = .ok (.iinc 2 1, 3) := by decide +kernel
theorem dX8_judgeCase_165 : decode cX8_judgeCase 165 = .ok (.goto (-106), 3) := by decide +kernel
theorem dX8_judgeCase_168 : decode cX8_judgeCase 168 = .ok (.return_, 1) := by decide +kernel
theorem dX8_judgeAll_0 : decode cX8_judgeAll 0 = .ok (.iconst 0, 1) := by decide +kernel
theorem dX8_judgeAll_1 : decode cX8_judgeAll 1 = .ok (.istore_n 1, 1) := by decide +kernel
theorem dX8_judgeAll_2 : decode cX8_judgeAll 2 = .ok (.iconst 0, 1) := by decide +kernel
theorem dX8_judgeAll_3 : decode cX8_judgeAll 3 = .ok (.istore_n 2, 1) := by decide +kernel
theorem dX8_judgeAll_4 : decode cX8_judgeAll 4 = .ok (.iload_n 2, 1) := by decide +kernel
theorem dX8_judgeAll_5 : decode cX8_judgeAll 5 = .ok (.aload_n 0, 1) := by decide +kernel
theorem dX8_judgeAll_6 : decode cX8_judgeAll 6 = .ok (.getfield 34, 3) := by decide +kernel
theorem dX8_judgeAll_9 : decode cX8_judgeAll 9 = .ok (.iconst 5, 1) := by decide +kernel
theorem dX8_judgeAll_10 : decode cX8_judgeAll 10 = .ok (.iaload, 1) := by decide +kernel
theorem dX8_judgeAll_11 : decode cX8_judgeAll 11 = .ok (.if_icmp .ge 33, 3) := by decide +kernel
theorem dX8_judgeAll_14 : decode cX8_judgeAll 14 = .ok (.aload_n 0, 1) := by decide +kernel
theorem dX8_judgeAll_15 : decode cX8_judgeAll 15 = .ok (.iload_n 2, 1) := by decide +kernel
theorem dX8_judgeAll_16 : decode cX8_judgeAll 16 = .ok (.invokevirtual 401, 3) := by decide +kernel
theorem dX8_judgeAll_19 : decode cX8_judgeAll 19 = .ok (.iload_n 1, 1) := by decide +kernel
theorem dX8_judgeAll_20 : decode cX8_judgeAll 20 = .ok (.aload_n 0, 1) := by decide +kernel
theorem dX8_judgeAll_21 : decode cX8_judgeAll 21 = .ok (.getfield 117, 3) := by decide +kernel
theorem dX8_judgeAll_24 : decode cX8_judgeAll 24 = .ok (.iload_n 2, 1) := by decide +kernel
theorem dX8_judgeAll_25 : decode cX8_judgeAll 25 = .ok (.iaload, 1) := by decide +kernel
theorem dX8_judgeAll_26 : decode cX8_judgeAll 26 = .ok (.ldc 186, 2) := by decide +kernel
theorem dX8_judgeAll_28 : decode cX8_judgeAll 28 = .ok (.if_icmp .ge 7, 3) := by decide +kernel
theorem dX8_judgeAll_31 : decode cX8_judgeAll 31 = .ok (.iconst 1, 1) := by decide +kernel
theorem dX8_judgeAll_32 : decode cX8_judgeAll 32 = .ok (.goto 4, 3) := by decide +kernel
theorem dX8_judgeAll_35 : decode cX8_judgeAll 35 = .ok (.iconst 0, 1) := by decide +kernel
theorem dX8_judgeAll_36 : decode cX8_judgeAll 36 = .ok (.iadd, 1) := by decide +kernel
theorem dX8_judgeAll_37 : decode cX8_judgeAll 37 = .ok (.istore_n 1, 1) := by decide +kernel
theorem dX8_judgeAll_38 : decode cX8_judgeAll 38 = .ok (.iinc 2 1, 3) := by decide +kernel
theorem dX8_judgeAll_41 : decode cX8_judgeAll 41 = .ok (.goto (-37), 3) := by decide +kernel
theorem dX8_judgeAll_44 : decode cX8_judgeAll 44 = .ok (.iload_n 1, 1) := by decide +kernel
theorem dX8_judgeAll_45 : decode cX8_judgeAll 45 = .ok (.ireturn, 1) := by decide +kernel
theorem dX8_tell_0 : decode cX8_tell 0 = .ok (.aload_n 0, 1) := by decide +kernel
theorem dX8_tell_1 : decode cX8_tell 1 = .ok (.invokevirtual 388, 3) := by decide +kernel
theorem dX8_tell_4 : decode cX8_tell 4 = .ok (.aload_n 0, 1) := by decide +kernel
theorem dX8_tell_5 : decode cX8_tell 5 = .ok (.invokevirtual 391, 3) := by decide +kernel
theorem dX8_tell_8 : decode cX8_tell 8 = .ok (.iconst 0, 1) := by decide +kernel
theorem dX8_tell_9 : decode cX8_tell 9 = .ok (.istore_n 1, 1) := by decide +kernel
theorem dX8_tell_10 : decode cX8_tell 10 = .ok (.iload_n 1, 1) := by decide +kernel
theorem dX8_tell_11 : decode cX8_tell 11 = .ok (.bipush 30, 2) := by decide +kernel
theorem dX8_tell_13 : decode cX8_tell 13 = .ok (.if_icmp .ge 16, 3) := by decide +kernel
theorem dX8_tell_16 : decode cX8_tell 16 = .ok (.aload_n 0, 1) := by decide +kernel
theorem dX8_tell_17 : decode cX8_tell 17 = .ok (.getfield 106, 3) := by decide +kernel
theorem dX8_tell_20 : decode cX8_tell 20 = .ok (.iload_n 1, 1) := by decide +kernel
theorem dX8_tell_21 : decode cX8_tell 21 = .ok (.iconst (-1), 1) := by decide +kernel
theorem dX8_tell_22 : decode cX8_tell 22 = .ok (.iastore, 1) := by decide +kernel
theorem dX8_tell_23 : decode cX8_tell 23 = .ok (.iinc 1 1, 3) := by decide +kernel
theorem dX8_tell_26 : decode cX8_tell 26 = .ok (.goto (-16), 3) := by decide +kernel
theorem dX8_tell_29 : decode cX8_tell 29 = .ok (.iconst 0, 1) := by decide +kernel
theorem dX8_tell_30 : decode cX8_tell 30 = .ok (.istore_n 1, 1) := by decide +kernel
theorem dX8_tell_31 : decode cX8_tell 31 = .ok (.iload_n 1, 1) := by decide +kernel
theorem dX8_tell_32 : decode cX8_tell 32 = .ok (.bipush 114, 2) := by decide +kernel
theorem dX8_tell_34 : decode cX8_tell 34 = .ok (.if_icmp .gt 46, 3) := by decide +kernel
theorem dX8_tell_37 : decode cX8_tell 37 = .ok (.iconst 0, 1) := by decide +kernel
theorem dX8_tell_38 : decode cX8_tell 38 = .ok (.istore_n 2, 1) := by decide +kernel
theorem dX8_tell_39 : decode cX8_tell 39 = .ok (.iload_n 2, 1) := by decide +kernel
theorem dX8_tell_40 : decode cX8_tell 40 = .ok (.aload_n 0, 1) := by decide +kernel
theorem dX8_tell_41 : decode cX8_tell 41 = .ok (.getfield 34, 3) := by decide +kernel
theorem dX8_tell_44 : decode cX8_tell 44 = .ok (.iconst 4, 1) := by decide +kernel
theorem dX8_tell_45 : decode cX8_tell 45 = .ok (.iaload, 1) := by decide +kernel
theorem dX8_tell_46 : decode cX8_tell 46 = .ok (.if_icmp .ge 28, 3) := by decide +kernel
theorem dX8_tell_49 : decode cX8_tell 49 = .ok (.aload_n 0, 1) := by decide +kernel
theorem dX8_tell_50 : decode cX8_tell 50 = .ok (.iload_n 2, 1) := by decide +kernel
theorem dX8_tell_51 : decode cX8_tell 51 = .ok (.iload_n 1, 1) := by decide +kernel
theorem dX8_tell_52 : decode cX8_tell 52 = .ok (.invokevirtual 346, 3) := by decide +kernel
theorem dX8_tell_55 : decode cX8_tell 55 = .ok (.istore_n 3, 1) := by decide +kernel
theorem dX8_tell_56 : decode cX8_tell 56 = .ok (.iload_n 3, 1) := by decide +kernel
theorem dX8_tell_57 : decode cX8_tell 57 = .ok (.iconst (-1), 1) := by decide +kernel
theorem dX8_tell_58 : decode cX8_tell 58 = .ok (.if_icmp .eq 10, 3) := by decide +kernel
theorem dX8_tell_61 : decode cX8_tell 61 = .ok (.aload_n 0, 1) := by decide +kernel
theorem dX8_tell_62 : decode cX8_tell 62 = .ok (.iload_n 2, 1) := by decide +kernel
theorem dX8_tell_63 : decode cX8_tell 63 = .ok (.iload_n 3, 1) := by decide +kernel
theorem dX8_tell_64 : decode cX8_tell 64 = .ok (.iload_n 1, 1) := by decide +kernel
theorem dX8_tell_65 : decode cX8_tell 65 = .ok (.invokevirtual 394, 3) := by decide +kernel
theorem dX8_tell_68 : decode cX8_tell 68 = .ok (.iinc 2 1, 3) := by decide +kernel
theorem dX8_tell_71 : decode cX8_tell 71 = .ok (.goto (-32), 3) := by decide +kernel
theorem dX8_tell_74 : decode cX8_tell 74 = .ok (.iinc 1 1, 3) := by decide +kernel
theorem dX8_tell_77 : decode cX8_tell 77 = .ok (.goto (-46), 3) := by decide +kernel
theorem dX8_tell_80 : decode cX8_tell 80 = .ok (.aload_n 0, 1) := by decide +kernel
theorem dX8_tell_81 : decode cX8_tell 81 = .ok (.invokevirtual 398, 3) := by decide +kernel
theorem dX8_tell_84 : decode cX8_tell 84 = .ok (.ireturn, 1) := by decide +kernel
theorem dX8_tellNow_0 : decode cX8_tellNow 0 = .ok (.aload_n 0, 1) := by decide +kernel
theorem dX8_tellNow_1 : decode cX8_tellNow 1 = .ok (.invokevirtual 404, 3) := by decide +kernel
theorem dX8_tellNow_4 : decode cX8_tellNow 4 = .ok (.aload_n 0, 1) := by decide +kernel
theorem dX8_tellNow_5 : decode cX8_tellNow 5 = .ok (.invokevirtual 407, 3) := by decide +kernel
theorem dX8_tellNow_8 : decode cX8_tellNow 8 = .ok (.ireturn, 1) := by decide +kernel
theorem dX8_orNone_0 : decode cX8_orNone 0 = .ok (.iload_n 0, 1) := by decide +kernel
theorem dX8_orNone_1 : decode cX8_orNone 1 = .ok (.ldc 186, 2) := by decide +kernel
theorem dX8_orNone_3 : decode cX8_orNone 3 = .ok (.if_icmp .lt 7, 3) := by decide +kernel
theorem dX8_orNone_6 : decode cX8_orNone 6 = .ok (.iconst (-1), 1) := by decide +kernel
theorem dX8_orNone_7 : decode cX8_orNone 7 = .ok (.goto 4, 3) := by decide +kernel
theorem dX8_orNone_10 : decode cX8_orNone 10 = .ok (.iload_n 0, 1) := by decide +kernel
theorem dX8_orNone_11 : decode cX8_orNone 11 = .ok (.ireturn, 1) := by decide +kernel
theorem dX8_bitsOf_0 : decode cX8_bitsOf 0 = .ok (.iconst 0, 1) := by decide +kernel
theorem dX8_bitsOf_1 : decode cX8_bitsOf 1 = .ok (.istore_n 1, 1) := by decide +kernel
theorem dX8_bitsOf_2 : decode cX8_bitsOf 2 = .ok (.iload_n 0, 1) := by decide +kernel
theorem dX8_bitsOf_3 : decode cX8_bitsOf 3 = .ok (.istore_n 2, 1) := by decide +kernel
theorem dX8_bitsOf_4 : decode cX8_bitsOf 4 = .ok (.iload_n 2, 1) := by decide +kernel
theorem dX8_bitsOf_5 : decode cX8_bitsOf 5 = .ok (.ifCond .eq 15, 3) := by decide +kernel
theorem dX8_bitsOf_8 : decode cX8_bitsOf 8 = .ok (.iinc 1 1, 3) := by decide +kernel
theorem dX8_bitsOf_11 : decode cX8_bitsOf 11 = .ok (.iload_n 2, 1) := by decide +kernel
theorem dX8_bitsOf_12 : decode cX8_bitsOf 12 = .ok (.iload_n 2, 1) := by decide +kernel
theorem dX8_bitsOf_13 : decode cX8_bitsOf 13 = .ok (.iconst 1, 1) := by decide +kernel
theorem dX8_bitsOf_14 : decode cX8_bitsOf 14 = .ok (.isub, 1) := by decide +kernel
theorem dX8_bitsOf_15 : decode cX8_bitsOf 15 = .ok (.iand, 1) := by decide +kernel
theorem dX8_bitsOf_16 : decode cX8_bitsOf 16 = .ok (.istore_n 2, 1) := by decide +kernel
theorem dX8_bitsOf_17 : decode cX8_bitsOf 17 = .ok (.goto (-13), 3) := by decide +kernel
theorem dX8_bitsOf_20 : decode cX8_bitsOf 20 = .ok (.iload_n 1, 1) := by decide +kernel
theorem dX8_bitsOf_21 : decode cX8_bitsOf 21 = .ok (.ireturn, 1) := by decide +kernel
def f_X8_isVoided_132 (k55 : Int32 → Int32 → Int32 → Int32 → Option (Int32)) (I : Mem) : Nat → Int32 → Int32 → Int32 → Int32 → Int32 → Int32 → Int32 → Option (Int32)
  | 0, _, _, _, _, _, _, _ => none
  | fu + 1, v1, v2, v3, v4, v5, v6, v7 =>
    if (I 50 0 0 4) ≤ v7 then (k55 v1 v2 v3 (v4 + (1 : Int32))) else (if v7 = v2 then ((f_X8_isVoided_132 k55 I fu) v1 v2 v3 v4 v5 v6 (v7 + (1 : Int32))) else (gd (inb (((5 : Int32) * v1) + v7) 30) <|
    if (I 71 0 0 ((((5 : Int32) * v1) + v7).toNatClampNeg)) = (-1 : Int32) then ((f_X8_isVoided_132 k55 I fu) v1 v2 v3 v4 v5 v6 (v7 + (1 : Int32))) else (gd (inb v3 30) <|
    if (I 72 0 0 v3.toNatClampNeg) ≤ (I 72 0 0 ((((5 : Int32) * v1) + v7).toNatClampNeg)) then ((f_X8_isVoided_132 k55 I fu) v1 v2 v3 v4 v5 v6 (v7 + (1 : Int32))) else ((f_X8_newsBy I v1 v7 v5).bind fun y1 =>
    if v6 < y1 then ((f_X8_isVoided_132 k55 I fu) v1 v2 v3 v4 v5 v6 (v7 + (1 : Int32))) else (some (1 : Int32))))))
theorem b_X8_isVoided_132 (X : CX) (Q : State → Prop) {I : Mem} {P : PMem} {O : Nat → Int64} {D : Bool} {n : Nat} {k55 : Int32 → Int32 → Int32 → Int32 → Option (Int32)} {r : (Int32)}  (H55 : ∀ (v1 : Int32) (v2 : Int32) (v3 : Int32) (v4 : Int32), k55 v1 v2 v3 v4 = some r → Here X cX8_isVoided RX8 8 (some .boolean) 5 n 55 [some (.inr (.inr (8, 0, 0))), some (.inl v1), some (.inl v2), some (.inl v3), some (.inl v4), none, none, none] [] I P O D n Q) : ∀ (fu : Nat) {v1 : Int32} {v2 : Int32} {v3 : Int32} {v4 : Int32} {v5 : Int32} {v6 : Int32} {v7 : Int32}, f_X8_isVoided_132 k55 I fu v1 v2 v3 v4 v5 v6 v7 = some r → EndR X cX8_isVoided RX8 8 (some .boolean) 5 n (some (.inl r)) I P O D Q → Here X cX8_isVoided RX8 8 (some .boolean) 5 n 132 [some (.inr (.inr (8, 0, 0))), some (.inl v1), some (.inl v2), some (.inl v3), some (.inl v4), some (.inl v5), some (.inl v6), some (.inl v7)] [] I P O D n Q := by
  intro fu
  induction fu with
  | zero => intro v1 v2 v3 v4 v5 v6 v7 h E; cases h
  | succ fu ih =>
  intro v1 v2 v3 v4 v5 v6 v7 h E
  have H132 : ∀ (v1 : Int32) (v2 : Int32) (v3 : Int32) (v4 : Int32) (v5 : Int32) (v6 : Int32) (v7 : Int32), f_X8_isVoided_132 k55 I fu v1 v2 v3 v4 v5 v6 v7 = some r → Here X cX8_isVoided RX8 8 (some .boolean) 5 n 132 [some (.inr (.inr (8, 0, 0))), some (.inl v1), some (.inl v2), some (.inl v3), some (.inl v4), some (.inl v5), some (.inl v6), some (.inl v7)] [] I P O D n Q := fun _ _ _ _ _ _ _ b => ih b E
  simp only [f_X8_isVoided_132] at h
  refine h_iload dX8_isVoided_132 rfl ?_
  refine h_aload_n dX8_isVoided_134 rfl ?_
  refine g_X8_34  dX8_isVoided_135 ?_
  refine h_iconst (4 : Int32) dX8_isVoided_138 k_iconst_4 ?_
  refine al_50  4 cl_4 dX8_isVoided_139 rfl ?_
  refine h_icmp_ge (tgt := 206) dX8_isVoided_140 (by decide) (fun q1 => ?_) (fun q1 => ?_)
  · rw [if_pos q1] at h
    refine h_iinc (1 : Int32) dX8_isVoided_206 rfl k_iinc_1 (by decide) rfl ?_
    refine h_goto (tgt := 55) dX8_isVoided_209 (by decide) ?_
    exact h_mask [true, true, true, true, true, false, false, false] (H55 _ _ _ _ h)
  · rw [if_neg q1] at h
    refine h_iload dX8_isVoided_143 rfl ?_
    refine h_iload_n dX8_isVoided_145 rfl ?_
    refine h_icmp_eq (tgt := 200) dX8_isVoided_146 (by decide) (fun q2 => ?_) (fun q2 => ?_)
    · rw [if_pos q2] at h
      refine h_iinc (1 : Int32) dX8_isVoided_200 rfl k_iinc_1 (by decide) rfl ?_
      refine h_goto (tgt := 132) dX8_isVoided_203 (by decide) ?_
      exact (H132 _ _ _ _ _ _ _ h)
    · rw [if_neg q2] at h
      refine h_aload_n dX8_isVoided_149 rfl ?_
      refine g_X8_106  dX8_isVoided_150 ?_
      refine h_iconst (5 : Int32) dX8_isVoided_153 k_iconst_5 ?_
      refine h_iload_n dX8_isVoided_154 rfl ?_
      refine h_imul dX8_isVoided_155 ?_
      refine h_iload dX8_isVoided_156 rfl ?_
      refine h_iadd dX8_isVoided_158 ?_
      obtain ⟨g1, h⟩ := gd_some h
      refine al_71  ((((5 : Int32) * v1) + v7).toNatClampNeg) rfl dX8_isVoided_159 g1 ?_
      refine h_iconst (-1 : Int32) dX8_isVoided_160 k_iconst_m1 ?_
      refine h_icmp_eq (tgt := 200) dX8_isVoided_161 (by decide) (fun q3 => ?_) (fun q3 => ?_)
      · rw [if_pos q3] at h
        refine h_iinc (1 : Int32) dX8_isVoided_200 rfl k_iinc_1 (by decide) rfl ?_
        refine h_goto (tgt := 132) dX8_isVoided_203 (by decide) ?_
        exact (H132 _ _ _ _ _ _ _ h)
      · rw [if_neg q3] at h
        refine h_aload_n dX8_isVoided_164 rfl ?_
        refine g_X8_108  dX8_isVoided_165 ?_
        refine h_iconst (5 : Int32) dX8_isVoided_168 k_iconst_5 ?_
        refine h_iload_n dX8_isVoided_169 rfl ?_
        refine h_imul dX8_isVoided_170 ?_
        refine h_iload dX8_isVoided_171 rfl ?_
        refine h_iadd dX8_isVoided_173 ?_
        refine al_72  ((((5 : Int32) * v1) + v7).toNatClampNeg) rfl dX8_isVoided_174 g1 ?_
        refine h_aload_n dX8_isVoided_175 rfl ?_
        refine g_X8_108  dX8_isVoided_176 ?_
        refine h_iload_n dX8_isVoided_179 rfl ?_
        obtain ⟨g2, h⟩ := gd_some h
        refine al_72  v3.toNatClampNeg rfl dX8_isVoided_180 g2 ?_
        refine h_icmp_ge (tgt := 200) dX8_isVoided_181 (by decide) (fun q4 => ?_) (fun q4 => ?_)
        · rw [if_pos q4] at h
          refine h_iinc (1 : Int32) dX8_isVoided_200 rfl k_iinc_1 (by decide) rfl ?_
          refine h_goto (tgt := 132) dX8_isVoided_203 (by decide) ?_
          exact (H132 _ _ _ _ _ _ _ h)
        · rw [if_neg q4] at h
          refine h_aload_n dX8_isVoided_184 rfl ?_
          refine h_iload_n dX8_isVoided_185 rfl ?_
          refine h_iload dX8_isVoided_186 rfl ?_
          refine h_iload dX8_isVoided_188 rfl ?_
          obtain ⟨y1, hh1, h⟩ := obd_some h
          refine h_cVi [.inl v1, .inl v7, .inl v5] (m_X8_newsBy  hh1) cw_X8_372 dX8_isVoided_190 rfl ok_8 (by decide) rfl (Or.inr rfl) rfl ?_
          refine h_iload dX8_isVoided_193 rfl ?_
          refine h_icmp_gt (tgt := 200) dX8_isVoided_195 (by decide) (fun q5 => ?_) (fun q5 => ?_)
          · rw [if_pos q5] at h
            refine h_iinc (1 : Int32) dX8_isVoided_200 rfl k_iinc_1 (by decide) rfl ?_
            refine h_goto (tgt := 132) dX8_isVoided_203 (by decide) ?_
            exact (H132 _ _ _ _ _ _ _ h)
          · rw [if_neg q5] at h
            refine h_iconst (1 : Int32) dX8_isVoided_198 k_iconst_1 ?_
            cases h
            exact h_zret dX8_isVoided_199 rfl rfl E
def f_X8_isVoided_55  (I : Mem) : Nat → Int32 → Int32 → Int32 → Int32 → Option (Int32)
  | 0, _, _, _, _ => none
  | fu + 1, v1, v2, v3, v4 =>
    gd (inb v2 10) <|
    if (I 55 0 0 v2.toNatClampNeg) ≤ v4 then (some (0 : Int32)) else (gd (inb (((7 : Int32) * v2) + v4) 35) <|
    gd (inb v3 30) <|
    if (I 72 0 0 v3.toNatClampNeg) < (I 69 0 0 ((((7 : Int32) * v2) + v4).toNatClampNeg)) then (some (0 : Int32)) else (bnd (I 68 0 0 ((((7 : Int32) * v2) + v4).toNatClampNeg)) fun x1 =>
    bnd (I 69 0 0 ((((7 : Int32) * v2) + v4).toNatClampNeg)) fun x2 =>
    (f_X8_newsByWord I v1 x1).bind fun y1 =>
    if x2 < y1 then (f_X8_isVoided_132 (f_X8_isVoided_55 I fu) I FU v1 v2 v3 v4 x1 x2 (0 : Int32)) else (some (1 : Int32))))
theorem b_X8_isVoided_55 (X : CX) (Q : State → Prop) {I : Mem} {P : PMem} {O : Nat → Int64} {D : Bool} {n : Nat} {r : (Int32)}  : ∀ (fu : Nat) {v1 : Int32} {v2 : Int32} {v3 : Int32} {v4 : Int32}, f_X8_isVoided_55 I fu v1 v2 v3 v4 = some r → EndR X cX8_isVoided RX8 8 (some .boolean) 5 n (some (.inl r)) I P O D Q → Here X cX8_isVoided RX8 8 (some .boolean) 5 n 55 [some (.inr (.inr (8, 0, 0))), some (.inl v1), some (.inl v2), some (.inl v3), some (.inl v4), none, none, none] [] I P O D n Q := by
  intro fu
  induction fu with
  | zero => intro v1 v2 v3 v4 h E; cases h
  | succ fu ih =>
  intro v1 v2 v3 v4 h E
  have H55 : ∀ (v1 : Int32) (v2 : Int32) (v3 : Int32) (v4 : Int32), f_X8_isVoided_55 I fu v1 v2 v3 v4 = some r → Here X cX8_isVoided RX8 8 (some .boolean) 5 n 55 [some (.inr (.inr (8, 0, 0))), some (.inl v1), some (.inl v2), some (.inl v3), some (.inl v4), none, none, none] [] I P O D n Q := fun _ _ _ _ b => ih b E
  simp only [f_X8_isVoided_55] at h
  refine h_iload dX8_isVoided_55 rfl ?_
  refine h_aload_n dX8_isVoided_57 rfl ?_
  refine g_X8_49  dX8_isVoided_58 ?_
  refine h_iload_n dX8_isVoided_61 rfl ?_
  obtain ⟨g1, h⟩ := gd_some h
  refine al_55  v2.toNatClampNeg rfl dX8_isVoided_62 g1 ?_
  refine h_icmp_ge (tgt := 212) dX8_isVoided_63 (by decide) (fun q1 => ?_) (fun q1 => ?_)
  · rw [if_pos q1] at h
    refine h_iconst (0 : Int32) dX8_isVoided_212 k_iconst_0 ?_
    cases h
    exact h_zret dX8_isVoided_213 rfl rfl E
  · rw [if_neg q1] at h
    refine h_aload_n dX8_isVoided_66 rfl ?_
    refine g_X8_94  dX8_isVoided_67 ?_
    refine h_bipush (7 : Int32) dX8_isVoided_70 k_bipush_7 ?_
    refine h_iload_n dX8_isVoided_72 rfl ?_
    refine h_imul dX8_isVoided_73 ?_
    refine h_iload dX8_isVoided_74 rfl ?_
    refine h_iadd dX8_isVoided_76 ?_
    obtain ⟨g2, h⟩ := gd_some h
    refine al_69  ((((7 : Int32) * v2) + v4).toNatClampNeg) rfl dX8_isVoided_77 g2 ?_
    refine h_aload_n dX8_isVoided_78 rfl ?_
    refine g_X8_108  dX8_isVoided_79 ?_
    refine h_iload_n dX8_isVoided_82 rfl ?_
    obtain ⟨g3, h⟩ := gd_some h
    refine al_72  v3.toNatClampNeg rfl dX8_isVoided_83 g3 ?_
    refine h_icmp_gt (tgt := 212) dX8_isVoided_84 (by decide) (fun q2 => ?_) (fun q2 => ?_)
    · rw [if_pos q2] at h
      refine h_iconst (0 : Int32) dX8_isVoided_212 k_iconst_0 ?_
      cases h
      exact h_zret dX8_isVoided_213 rfl rfl E
    · rw [if_neg q2] at h
      refine h_aload_n dX8_isVoided_87 rfl ?_
      refine g_X8_91  dX8_isVoided_88 ?_
      refine h_bipush (7 : Int32) dX8_isVoided_91 k_bipush_7 ?_
      refine h_iload_n dX8_isVoided_93 rfl ?_
      refine h_imul dX8_isVoided_94 ?_
      refine h_iload dX8_isVoided_95 rfl ?_
      refine h_iadd dX8_isVoided_97 ?_
      refine al_68  ((((7 : Int32) * v2) + v4).toNatClampNeg) rfl dX8_isVoided_98 g2 ?_
      obtain ⟨x1, e1, h⟩ := bnd_some h
      refine h_nmv e1 ?_
      refine h_istore dX8_isVoided_99 (by decide) rfl ?_
      refine h_aload_n dX8_isVoided_101 rfl ?_
      refine g_X8_94  dX8_isVoided_102 ?_
      refine h_bipush (7 : Int32) dX8_isVoided_105 k_bipush_7 ?_
      refine h_iload_n dX8_isVoided_107 rfl ?_
      refine h_imul dX8_isVoided_108 ?_
      refine h_iload dX8_isVoided_109 rfl ?_
      refine h_iadd dX8_isVoided_111 ?_
      refine al_69  ((((7 : Int32) * v2) + v4).toNatClampNeg) rfl dX8_isVoided_112 g2 ?_
      obtain ⟨x2, e2, h⟩ := bnd_some h
      refine h_nmv e2 ?_
      refine h_istore dX8_isVoided_113 (by decide) rfl ?_
      refine h_aload_n dX8_isVoided_115 rfl ?_
      refine h_iload_n dX8_isVoided_116 rfl ?_
      refine h_iload dX8_isVoided_117 rfl ?_
      obtain ⟨y1, hh1, h⟩ := obd_some h
      refine h_cVi [.inl v1, .inl x1] (m_X8_newsByWord  hh1) cw_X8_369 dX8_isVoided_119 rfl ok_8 (by decide) rfl (Or.inr rfl) rfl ?_
      refine h_iload dX8_isVoided_122 rfl ?_
      refine h_icmp_gt (tgt := 129) dX8_isVoided_124 (by decide) (fun q3 => ?_) (fun q3 => ?_)
      · rw [if_pos q3] at h
        refine h_iconst (0 : Int32) dX8_isVoided_129 k_iconst_0 ?_
        refine h_istore dX8_isVoided_130 (by decide) rfl ?_
        exact (b_X8_isVoided_132 X Q H55 FU  h E)
      · rw [if_neg q3] at h
        refine h_iconst (1 : Int32) dX8_isVoided_127 k_iconst_1 ?_
        cases h
        exact h_zret dX8_isVoided_128 rfl rfl E
def f_X8_isVoided_52  (I : Mem) (v1 : Int32) (v2 : Int32) (v3 : Int32) : Option (Int32) :=
  f_X8_isVoided_55 I FU v1 v2 v3 (0 : Int32)
theorem b_X8_isVoided_52 (X : CX) (Q : State → Prop) {I : Mem} {P : PMem} {O : Nat → Int64} {D : Bool} {n : Nat} {v1 : Int32} {v2 : Int32} {v3 : Int32} {r : (Int32)}  (h : f_X8_isVoided_52 I v1 v2 v3 = some r) (E : EndR X cX8_isVoided RX8 8 (some .boolean) 5 n (some (.inl r)) I P O D Q) : Here X cX8_isVoided RX8 8 (some .boolean) 5 n 52 [some (.inr (.inr (8, 0, 0))), some (.inl v1), some (.inl v2), some (.inl v3), none, none, none, none] [] I P O D n Q := by
  unfold f_X8_isVoided_52 at h
  refine h_iconst (0 : Int32) dX8_isVoided_52 k_iconst_0 ?_
  refine h_istore dX8_isVoided_53 (by decide) rfl ?_
  exact (b_X8_isVoided_55 X Q FU  h E)
def f_X8_isVoided  (I : Mem) (v1 : Int32) (v2 : Int32) : Option (Int32) :=
  bnd (((5 : Int32) * v1) + v2) fun x1 =>
  gd (inb x1 30) <|
  if (I 71 0 0 x1.toNatClampNeg) = (-1 : Int32) then (some (0 : Int32)) else (if ((jshr (I 8 0 0 41) v2) &&& (1 : Int32)) = (1 : Int32) then (some (0 : Int32)) else (if v1 = (I 8 0 0 43) then (if ((jshr (I 8 0 0 42) v2) &&& (1 : Int32)) = (1 : Int32) then (some (1 : Int32)) else (f_X8_isVoided_52 I v1 v2 x1)) else (f_X8_isVoided_52 I v1 v2 x1)))
theorem b_X8_isVoided (X : CX) (Q : State → Prop) {I : Mem} {P : PMem} {O : Nat → Int64} {D : Bool} {n : Nat} {v1 : Int32} {v2 : Int32} {r : (Int32)}  (h : f_X8_isVoided I v1 v2 = some r) (E : EndR X cX8_isVoided RX8 8 (some .boolean) 5 n (some (.inl r)) I P O D Q) : Here X cX8_isVoided RX8 8 (some .boolean) 5 n 0 [some (.inr (.inr (8, 0, 0))), some (.inl v1), some (.inl v2), none, none, none, none, none] [] I P O D n Q := by
  unfold f_X8_isVoided at h
  refine h_iconst (5 : Int32) dX8_isVoided_0 k_iconst_5 ?_
  refine h_iload_n dX8_isVoided_1 rfl ?_
  refine h_imul dX8_isVoided_2 ?_
  refine h_iload_n dX8_isVoided_3 rfl ?_
  refine h_iadd dX8_isVoided_4 ?_
  obtain ⟨x1, e1, h⟩ := bnd_some h
  refine h_nmv e1 ?_
  refine h_istore_n dX8_isVoided_5 (by decide) rfl ?_
  refine h_aload_n dX8_isVoided_6 rfl ?_
  refine g_X8_106  dX8_isVoided_7 ?_
  refine h_iload_n dX8_isVoided_10 rfl ?_
  obtain ⟨g1, h⟩ := gd_some h
  refine al_71  x1.toNatClampNeg rfl dX8_isVoided_11 g1 ?_
  refine h_iconst (-1 : Int32) dX8_isVoided_12 k_iconst_m1 ?_
  refine h_icmp_eq (tgt := 28) dX8_isVoided_13 (by decide) (fun q1 => ?_) (fun q1 => ?_)
  · rw [if_pos q1] at h
    refine h_iconst (0 : Int32) dX8_isVoided_28 k_iconst_0 ?_
    cases h
    exact h_zret dX8_isVoided_29 rfl rfl E
  · rw [if_neg q1] at h
    refine h_aload_n dX8_isVoided_16 rfl ?_
    refine g_X8_343  dX8_isVoided_17 ?_
    refine h_iload_n dX8_isVoided_20 rfl ?_
    refine h_shr dX8_isVoided_21 ?_
    refine h_iconst (1 : Int32) dX8_isVoided_22 k_iconst_1 ?_
    refine h_iand dX8_isVoided_23 ?_
    refine h_iconst (1 : Int32) dX8_isVoided_24 k_iconst_1 ?_
    refine h_icmp_ne (tgt := 30) dX8_isVoided_25 (by decide) (fun q2 => ?_) (fun q2 => ?_)
    · rw [if_neg q2] at h
      refine h_iload_n dX8_isVoided_30 rfl ?_
      refine h_aload_n dX8_isVoided_31 rfl ?_
      refine g_X8_103  dX8_isVoided_32 ?_
      refine h_icmp_ne (tgt := 52) dX8_isVoided_35 (by decide) (fun q3 => ?_) (fun q3 => ?_)
      · rw [if_neg q3] at h
        exact (b_X8_isVoided_52 X Q  h E)
      · rw [if_pos q3] at h
        refine h_aload_n dX8_isVoided_38 rfl ?_
        refine g_X8_340  dX8_isVoided_39 ?_
        refine h_iload_n dX8_isVoided_42 rfl ?_
        refine h_shr dX8_isVoided_43 ?_
        refine h_iconst (1 : Int32) dX8_isVoided_44 k_iconst_1 ?_
        refine h_iand dX8_isVoided_45 ?_
        refine h_iconst (1 : Int32) dX8_isVoided_46 k_iconst_1 ?_
        refine h_icmp_ne (tgt := 52) dX8_isVoided_47 (by decide) (fun q4 => ?_) (fun q4 => ?_)
        · rw [if_neg q4] at h
          exact (b_X8_isVoided_52 X Q  h E)
        · rw [if_pos q4] at h
          refine h_iconst (1 : Int32) dX8_isVoided_50 k_iconst_1 ?_
          cases h
          exact h_zret dX8_isVoided_51 rfl rfl E
    · rw [if_pos q2] at h
      refine h_iconst (0 : Int32) dX8_isVoided_28 k_iconst_0 ?_
      cases h
      exact h_zret dX8_isVoided_29 rfl rfl E
theorem m_X8_isVoided {I : Mem} {P : PMem} {O : Nat → Int64} {D : Bool} {n : Nat} {v1 : Int32} {v2 : Int32} {r : (Int32)}  (h : f_X8_isVoided I v1 v2 = some r) : MethR yX8_isVoided cX8_isVoided 8 (some .boolean) 5 [.inr (.inr (8, 0, 0)), .inl v1, .inl v2] I P O D n (some (.inl r)) I P O D n := meth_R (Nat.le_refl _) (by decide) rfl (Nat.le_of_ble_eq_true rfl) rfl (fun X Q E => b_X8_isVoided X Q  h E)
def f_X8_isGood  (I : Mem) (v1 : Int32) (v2 : Int32) : Option (Int32) :=
  bnd (((5 : Int32) * v1) + v2) fun x1 =>
  gd (inb x1 30) <|
  if (I 71 0 0 x1.toNatClampNeg) = (1 : Int32) then (if (I 74 0 0 x1.toNatClampNeg) = 0 then (some (1 : Int32)) else (some (0 : Int32))) else (some (0 : Int32))
theorem b_X8_isGood (X : CX) (Q : State → Prop) {I : Mem} {P : PMem} {O : Nat → Int64} {D : Bool} {n : Nat} {v1 : Int32} {v2 : Int32} {r : (Int32)}  (h : f_X8_isGood I v1 v2 = some r) (E : EndR X cX8_isGood RX8 4 (some .boolean) 2 n (some (.inl r)) I P O D Q) : Here X cX8_isGood RX8 4 (some .boolean) 2 n 0 [some (.inr (.inr (8, 0, 0))), some (.inl v1), some (.inl v2), none] [] I P O D n Q := by
  unfold f_X8_isGood at h
  refine h_iconst (5 : Int32) dX8_isGood_0 k_iconst_5 ?_
  refine h_iload_n dX8_isGood_1 rfl ?_
  refine h_imul dX8_isGood_2 ?_
  refine h_iload_n dX8_isGood_3 rfl ?_
  refine h_iadd dX8_isGood_4 ?_
  obtain ⟨x1, e1, h⟩ := bnd_some h
  refine h_nmv e1 ?_
  refine h_istore_n dX8_isGood_5 (by decide) rfl ?_
  refine h_aload_n dX8_isGood_6 rfl ?_
  refine g_X8_106  dX8_isGood_7 ?_
  refine h_iload_n dX8_isGood_10 rfl ?_
  obtain ⟨g1, h⟩ := gd_some h
  refine al_71  x1.toNatClampNeg rfl dX8_isGood_11 g1 ?_
  refine h_iconst (1 : Int32) dX8_isGood_12 k_iconst_1 ?_
  refine h_icmp_ne (tgt := 29) dX8_isGood_13 (by decide) (fun q1 => ?_) (fun q1 => ?_)
  · rw [if_neg q1] at h
    refine h_iconst (0 : Int32) dX8_isGood_29 k_iconst_0 ?_
    cases h
    exact h_zret dX8_isGood_30 rfl rfl E
  · rw [if_pos q1] at h
    refine h_aload_n dX8_isGood_16 rfl ?_
    refine g_X8_114  dX8_isGood_17 ?_
    refine h_iload_n dX8_isGood_20 rfl ?_
    refine al_74  x1.toNatClampNeg rfl dX8_isGood_21 g1 ?_
    refine h_if_ne (tgt := 29) dX8_isGood_22 (by decide) (fun q2 => ?_) (fun q2 => ?_)
    · rw [if_neg q2] at h
      refine h_iconst (0 : Int32) dX8_isGood_29 k_iconst_0 ?_
      cases h
      exact h_zret dX8_isGood_30 rfl rfl E
    · rw [if_pos q2] at h
      refine h_iconst (1 : Int32) dX8_isGood_25 k_iconst_1 ?_
      refine h_goto (tgt := 30) dX8_isGood_26 (by decide) ?_
      cases h
      exact h_zret dX8_isGood_30 rfl rfl E
theorem m_X8_isGood {I : Mem} {P : PMem} {O : Nat → Int64} {D : Bool} {n : Nat} {v1 : Int32} {v2 : Int32} {r : (Int32)}  (h : f_X8_isGood I v1 v2 = some r) : MethR yX8_isGood cX8_isGood 4 (some .boolean) 2 [.inr (.inr (8, 0, 0)), .inl v1, .inl v2] I P O D n (some (.inl r)) I P O D n := meth_R (Nat.le_refl _) (by decide) rfl (Nat.le_of_ble_eq_true rfl) rfl (fun X Q E => b_X8_isGood X Q  h E)
def f_X8_three  (I : Mem) (v1 : Int32) (v2 : Int32) (v3 : Int32) (v4 : Int32) : Option (Int32) :=
  bnd (((5 : Int32) * v1) + v2) fun x1 =>
  bnd (((5 : Int32) * v1) + v3) fun x2 =>
  bnd (((5 : Int32) * v1) + v4) fun x3 =>
  (f_X8_isGood I v1 v2).bind fun y1 =>
  if y1 = 0 then (some (100000 : Int32)) else ((f_X8_isGood I v1 v3).bind fun y2 =>
  if y2 = 0 then (some (100000 : Int32)) else ((f_X8_isGood I v1 v4).bind fun y3 =>
  if y3 = 0 then (some (100000 : Int32)) else (gd (inb x1 30) <|
  gd (inb x2 30) <|
  if (I 73 0 0 x1.toNatClampNeg) = (I 73 0 0 x2.toNatClampNeg) then (some (100000 : Int32)) else (gd (inb x3 30) <|
  if (I 73 0 0 x1.toNatClampNeg) = (I 73 0 0 x3.toNatClampNeg) then (some (100000 : Int32)) else (if (I 73 0 0 x2.toNatClampNeg) = (I 73 0 0 x3.toNatClampNeg) then (some (100000 : Int32)) else (bnd (jmax (I 72 0 0 x1.toNatClampNeg) (jmax (I 72 0 0 x2.toNatClampNeg) (I 72 0 0 x3.toNatClampNeg))) fun x4 =>
  gd (inb (((5 : Int32) * v2) + v3) 25) <|
  if (I 70 0 0 ((((5 : Int32) * v2) + v3).toNatClampNeg)) ≤ x4 then (some (100000 : Int32)) else (gd (inb (((5 : Int32) * v2) + v4) 25) <|
  if (I 70 0 0 ((((5 : Int32) * v2) + v4).toNatClampNeg)) ≤ x4 then (some (100000 : Int32)) else (gd (inb (((5 : Int32) * v3) + v4) 25) <|
  if (I 70 0 0 ((((5 : Int32) * v3) + v4).toNatClampNeg)) ≤ x4 then (some (100000 : Int32)) else (some x4)))))))))
theorem b_X8_three (X : CX) (Q : State → Prop) {I : Mem} {P : PMem} {O : Nat → Int64} {D : Bool} {n : Nat} {v1 : Int32} {v2 : Int32} {v3 : Int32} {v4 : Int32} {r : (Int32)}  (h : f_X8_three I v1 v2 v3 v4 = some r) (E : EndR X cX8_three RX8 9 (some .int) 3 n (some (.inl r)) I P O D Q) : Here X cX8_three RX8 9 (some .int) 3 n 0 [some (.inr (.inr (8, 0, 0))), some (.inl v1), some (.inl v2), some (.inl v3), some (.inl v4), none, none, none, none] [] I P O D n Q := by
  unfold f_X8_three at h
  refine h_iconst (5 : Int32) dX8_three_0 k_iconst_5 ?_
  refine h_iload_n dX8_three_1 rfl ?_
  refine h_imul dX8_three_2 ?_
  refine h_iload_n dX8_three_3 rfl ?_
  refine h_iadd dX8_three_4 ?_
  obtain ⟨x1, e1, h⟩ := bnd_some h
  refine h_nmv e1 ?_
  refine h_istore dX8_three_5 (by decide) rfl ?_
  refine h_iconst (5 : Int32) dX8_three_7 k_iconst_5 ?_
  refine h_iload_n dX8_three_8 rfl ?_
  refine h_imul dX8_three_9 ?_
  refine h_iload_n dX8_three_10 rfl ?_
  refine h_iadd dX8_three_11 ?_
  obtain ⟨x2, e2, h⟩ := bnd_some h
  refine h_nmv e2 ?_
  refine h_istore dX8_three_12 (by decide) rfl ?_
  refine h_iconst (5 : Int32) dX8_three_14 k_iconst_5 ?_
  refine h_iload_n dX8_three_15 rfl ?_
  refine h_imul dX8_three_16 ?_
  refine h_iload dX8_three_17 rfl ?_
  refine h_iadd dX8_three_19 ?_
  obtain ⟨x3, e3, h⟩ := bnd_some h
  refine h_nmv e3 ?_
  refine h_istore dX8_three_20 (by decide) rfl ?_
  refine h_aload_n dX8_three_22 rfl ?_
  refine h_iload_n dX8_three_23 rfl ?_
  refine h_iload_n dX8_three_24 rfl ?_
  obtain ⟨y1, hh1, h⟩ := obd_some h
  refine h_cVi [.inl v1, .inl v2] (m_X8_isGood  hh1) cw_X8_375 dX8_three_25 rfl ok_8 (by decide) rfl (Or.inr rfl) rfl ?_
  refine h_if_eq (tgt := 101) dX8_three_28 (by decide) (fun q1 => ?_) (fun q1 => ?_)
  · rw [if_pos q1] at h
    refine h_ldci (100000 : Int32) dX8_three_101 kc_X8_186 ?_
    cases h
    exact h_iret dX8_three_103 rfl E
  · rw [if_neg q1] at h
    refine h_aload_n dX8_three_31 rfl ?_
    refine h_iload_n dX8_three_32 rfl ?_
    refine h_iload_n dX8_three_33 rfl ?_
    obtain ⟨y2, hh2, h⟩ := obd_some h
    refine h_cVi [.inl v1, .inl v3] (m_X8_isGood  hh2) cw_X8_375 dX8_three_34 rfl ok_8 (by decide) rfl (Or.inr rfl) rfl ?_
    refine h_if_eq (tgt := 101) dX8_three_37 (by decide) (fun q2 => ?_) (fun q2 => ?_)
    · rw [if_pos q2] at h
      refine h_ldci (100000 : Int32) dX8_three_101 kc_X8_186 ?_
      cases h
      exact h_iret dX8_three_103 rfl E
    · rw [if_neg q2] at h
      refine h_aload_n dX8_three_40 rfl ?_
      refine h_iload_n dX8_three_41 rfl ?_
      refine h_iload dX8_three_42 rfl ?_
      obtain ⟨y3, hh3, h⟩ := obd_some h
      refine h_cVi [.inl v1, .inl v4] (m_X8_isGood  hh3) cw_X8_375 dX8_three_44 rfl ok_8 (by decide) rfl (Or.inr rfl) rfl ?_
      refine h_if_eq (tgt := 101) dX8_three_47 (by decide) (fun q3 => ?_) (fun q3 => ?_)
      · rw [if_pos q3] at h
        refine h_ldci (100000 : Int32) dX8_three_101 kc_X8_186 ?_
        cases h
        exact h_iret dX8_three_103 rfl E
      · rw [if_neg q3] at h
        refine h_aload_n dX8_three_50 rfl ?_
        refine g_X8_111  dX8_three_51 ?_
        refine h_iload dX8_three_54 rfl ?_
        obtain ⟨g1, h⟩ := gd_some h
        refine al_73  x1.toNatClampNeg rfl dX8_three_56 g1 ?_
        refine h_aload_n dX8_three_57 rfl ?_
        refine g_X8_111  dX8_three_58 ?_
        refine h_iload dX8_three_61 rfl ?_
        obtain ⟨g2, h⟩ := gd_some h
        refine al_73  x2.toNatClampNeg rfl dX8_three_63 g2 ?_
        refine h_icmp_eq (tgt := 101) dX8_three_64 (by decide) (fun q4 => ?_) (fun q4 => ?_)
        · rw [if_pos q4] at h
          refine h_ldci (100000 : Int32) dX8_three_101 kc_X8_186 ?_
          cases h
          exact h_iret dX8_three_103 rfl E
        · rw [if_neg q4] at h
          refine h_aload_n dX8_three_67 rfl ?_
          refine g_X8_111  dX8_three_68 ?_
          refine h_iload dX8_three_71 rfl ?_
          refine al_73  x1.toNatClampNeg rfl dX8_three_73 g1 ?_
          refine h_aload_n dX8_three_74 rfl ?_
          refine g_X8_111  dX8_three_75 ?_
          refine h_iload dX8_three_78 rfl ?_
          obtain ⟨g3, h⟩ := gd_some h
          refine al_73  x3.toNatClampNeg rfl dX8_three_80 g3 ?_
          refine h_icmp_eq (tgt := 101) dX8_three_81 (by decide) (fun q5 => ?_) (fun q5 => ?_)
          · rw [if_pos q5] at h
            refine h_ldci (100000 : Int32) dX8_three_101 kc_X8_186 ?_
            cases h
            exact h_iret dX8_three_103 rfl E
          · rw [if_neg q5] at h
            refine h_aload_n dX8_three_84 rfl ?_
            refine g_X8_111  dX8_three_85 ?_
            refine h_iload dX8_three_88 rfl ?_
            refine al_73  x2.toNatClampNeg rfl dX8_three_90 g2 ?_
            refine h_aload_n dX8_three_91 rfl ?_
            refine g_X8_111  dX8_three_92 ?_
            refine h_iload dX8_three_95 rfl ?_
            refine al_73  x3.toNatClampNeg rfl dX8_three_97 g3 ?_
            refine h_icmp_ne (tgt := 104) dX8_three_98 (by decide) (fun q6 => ?_) (fun q6 => ?_)
            · rw [if_neg q6] at h
              refine h_aload_n dX8_three_104 rfl ?_
              refine g_X8_108  dX8_three_105 ?_
              refine h_iload dX8_three_108 rfl ?_
              refine al_72  x1.toNatClampNeg rfl dX8_three_110 g1 ?_
              refine h_aload_n dX8_three_111 rfl ?_
              refine g_X8_108  dX8_three_112 ?_
              refine h_iload dX8_three_115 rfl ?_
              refine al_72  x2.toNatClampNeg rfl dX8_three_117 g2 ?_
              refine h_aload_n dX8_three_118 rfl ?_
              refine g_X8_108  dX8_three_119 ?_
              refine h_iload dX8_three_122 rfl ?_
              refine al_72  x3.toNatClampNeg rfl dX8_three_124 g3 ?_
              refine h_max dX8_three_125 ml_X8_378 wm1_max wm2 wm3_max (by decide) rfl ?_
              refine h_max dX8_three_128 ml_X8_378 wm1_max wm2 wm3_max (by decide) rfl ?_
              obtain ⟨x4, e4, h⟩ := bnd_some h
              refine h_nmv e4 ?_
              refine h_istore dX8_three_131 (by decide) rfl ?_
              refine h_aload_n dX8_three_133 rfl ?_
              refine g_X8_97  dX8_three_134 ?_
              refine h_iconst (5 : Int32) dX8_three_137 k_iconst_5 ?_
              refine h_iload_n dX8_three_138 rfl ?_
              refine h_imul dX8_three_139 ?_
              refine h_iload_n dX8_three_140 rfl ?_
              refine h_iadd dX8_three_141 ?_
              obtain ⟨g4, h⟩ := gd_some h
              refine al_70  ((((5 : Int32) * v2) + v3).toNatClampNeg) rfl dX8_three_142 g4 ?_
              refine h_iload dX8_three_143 rfl ?_
              refine h_icmp_le (tgt := 185) dX8_three_145 (by decide) (fun q7 => ?_) (fun q7 => ?_)
              · rw [if_pos q7] at h
                refine h_ldci (100000 : Int32) dX8_three_185 kc_X8_186 ?_
                cases h
                exact h_iret dX8_three_187 rfl E
              · rw [if_neg q7] at h
                refine h_aload_n dX8_three_148 rfl ?_
                refine g_X8_97  dX8_three_149 ?_
                refine h_iconst (5 : Int32) dX8_three_152 k_iconst_5 ?_
                refine h_iload_n dX8_three_153 rfl ?_
                refine h_imul dX8_three_154 ?_
                refine h_iload dX8_three_155 rfl ?_
                refine h_iadd dX8_three_157 ?_
                obtain ⟨g5, h⟩ := gd_some h
                refine al_70  ((((5 : Int32) * v2) + v4).toNatClampNeg) rfl dX8_three_158 g5 ?_
                refine h_iload dX8_three_159 rfl ?_
                refine h_icmp_le (tgt := 185) dX8_three_161 (by decide) (fun q8 => ?_) (fun q8 => ?_)
                · rw [if_pos q8] at h
                  refine h_ldci (100000 : Int32) dX8_three_185 kc_X8_186 ?_
                  cases h
                  exact h_iret dX8_three_187 rfl E
                · rw [if_neg q8] at h
                  refine h_aload_n dX8_three_164 rfl ?_
                  refine g_X8_97  dX8_three_165 ?_
                  refine h_iconst (5 : Int32) dX8_three_168 k_iconst_5 ?_
                  refine h_iload_n dX8_three_169 rfl ?_
                  refine h_imul dX8_three_170 ?_
                  refine h_iload dX8_three_171 rfl ?_
                  refine h_iadd dX8_three_173 ?_
                  obtain ⟨g6, h⟩ := gd_some h
                  refine al_70  ((((5 : Int32) * v3) + v4).toNatClampNeg) rfl dX8_three_174 g6 ?_
                  refine h_iload dX8_three_175 rfl ?_
                  refine h_icmp_le (tgt := 185) dX8_three_177 (by decide) (fun q9 => ?_) (fun q9 => ?_)
                  · rw [if_pos q9] at h
                    refine h_ldci (100000 : Int32) dX8_three_185 kc_X8_186 ?_
                    cases h
                    exact h_iret dX8_three_187 rfl E
                  · rw [if_neg q9] at h
                    refine h_iload dX8_three_180 rfl ?_
                    refine h_goto (tgt := 187) dX8_three_182 (by decide) ?_
                    cases h
                    exact h_iret dX8_three_187 rfl E
            · rw [if_pos q6] at h
              refine h_ldci (100000 : Int32) dX8_three_101 kc_X8_186 ?_
              cases h
              exact h_iret dX8_three_103 rfl E
theorem m_X8_three {I : Mem} {P : PMem} {O : Nat → Int64} {D : Bool} {n : Nat} {v1 : Int32} {v2 : Int32} {v3 : Int32} {v4 : Int32} {r : (Int32)}  (h : f_X8_three I v1 v2 v3 v4 = some r) : MethR yX8_three cX8_three 9 (some .int) 3 [.inr (.inr (8, 0, 0)), .inl v1, .inl v2, .inl v3, .inl v4] I P O D n (some (.inl r)) I P O D n := meth_R (Nat.le_refl _) (by decide) rfl (Nat.le_of_ble_eq_true rfl) rfl (fun X Q E => b_X8_three X Q  h E)
def f_X8_judgeCase_88 (k73 : Mem → Int32 → Int32 → Int32 → Option (Mem))  : Nat → Mem → Int32 → Int32 → Int32 → Int32 → Option (Mem)
  | 0, _, _, _, _, _ => none
  | fu + 1, I, v1, v2, v3, v4 =>
    if (I 50 0 0 4) ≤ v4 then (k73 I v1 v2 (v3 + (1 : Int32))) else ((f_X8_three I v1 v2 v3 v4).bind fun y1 =>
    gd (inb v1 6) <|
    if y1 < (I 75 0 0 v1.toNatClampNeg) then (bnd (upd4 I 75 0 0 v1.toNatClampNeg y1) fun I1' =>
    bnd (upd4 I1' 76 0 0 v1.toNatClampNeg (((jshl (1 : Int32) v2) ||| (jshl (1 : Int32) v3)) ||| (jshl (1 : Int32) v4))) fun I2' =>
    (f_X8_judgeCase_88 k73 fu) I2' v1 v2 v3 (v4 + (1 : Int32))) else ((f_X8_judgeCase_88 k73 fu) I v1 v2 v3 (v4 + (1 : Int32))))
theorem b_X8_judgeCase_88 (X : CX) (Q : State → Prop) {P : PMem} {O : Nat → Int64} {D : Bool} {n : Nat} {k73 : Mem → Int32 → Int32 → Int32 → Option (Mem)} {r : (Mem)}  (H73 : ∀ (I : Mem) (v1 : Int32) (v2 : Int32) (v3 : Int32), k73 I v1 v2 v3 = some r → Here X cX8_judgeCase RX8 6 (none) 6 n 73 [some (.inr (.inr (8, 0, 0))), some (.inl v1), some (.inl v2), some (.inl v3), none, none] [] I P O D n Q) : ∀ (fu : Nat) {I : Mem} {v1 : Int32} {v2 : Int32} {v3 : Int32} {v4 : Int32}, f_X8_judgeCase_88 k73 fu I v1 v2 v3 v4 = some r → EndR X cX8_judgeCase RX8 6 (none) 6 n none r P O D Q → Here X cX8_judgeCase RX8 6 (none) 6 n 88 [some (.inr (.inr (8, 0, 0))), some (.inl v1), some (.inl v2), some (.inl v3), some (.inl v4), none] [] I P O D n Q := by
  intro fu
  induction fu with
  | zero => intro I v1 v2 v3 v4 h E; cases h
  | succ fu ih =>
  intro I v1 v2 v3 v4 h E
  have H88 : ∀ (I : Mem) (v1 : Int32) (v2 : Int32) (v3 : Int32) (v4 : Int32), f_X8_judgeCase_88 k73 fu I v1 v2 v3 v4 = some r → Here X cX8_judgeCase RX8 6 (none) 6 n 88 [some (.inr (.inr (8, 0, 0))), some (.inl v1), some (.inl v2), some (.inl v3), some (.inl v4), none] [] I P O D n Q := fun _ _ _ _ _ b => ih b E
  simp only [f_X8_judgeCase_88] at h
  refine h_iload dX8_judgeCase_88 rfl ?_
  refine h_aload_n dX8_judgeCase_90 rfl ?_
  refine g_X8_34  dX8_judgeCase_91 ?_
  refine h_iconst (4 : Int32) dX8_judgeCase_94 k_iconst_4 ?_
  refine al_50  4 cl_4 dX8_judgeCase_95 rfl ?_
  refine h_icmp_ge (tgt := 156) dX8_judgeCase_96 (by decide) (fun q1 => ?_) (fun q1 => ?_)
  · rw [if_pos q1] at h
    refine h_iinc (1 : Int32) dX8_judgeCase_156 rfl k_iinc_1 (by decide) rfl ?_
    refine h_goto (tgt := 73) dX8_judgeCase_159 (by decide) ?_
    exact h_mask [true, true, true, true, false, false] (H73 _ _ _ _ h)
  · rw [if_neg q1] at h
    refine h_aload_n dX8_judgeCase_99 rfl ?_
    refine h_iload_n dX8_judgeCase_100 rfl ?_
    refine h_iload_n dX8_judgeCase_101 rfl ?_
    refine h_iload_n dX8_judgeCase_102 rfl ?_
    refine h_iload dX8_judgeCase_103 rfl ?_
    obtain ⟨y1, hh1, h⟩ := obd_some h
    refine h_cVi [.inl v1, .inl v2, .inl v3, .inl v4] (m_X8_three  hh1) cw_X8_384 dX8_judgeCase_105 rfl ok_8 (by decide) rfl (Or.inr rfl) rfl ?_
    refine h_istore dX8_judgeCase_108 (by decide) rfl ?_
    refine h_iload dX8_judgeCase_110 rfl ?_
    refine h_aload_n dX8_judgeCase_112 rfl ?_
    refine g_X8_117  dX8_judgeCase_113 ?_
    refine h_iload_n dX8_judgeCase_116 rfl ?_
    obtain ⟨g1, h⟩ := gd_some h
    refine al_75  v1.toNatClampNeg rfl dX8_judgeCase_117 g1 ?_
    refine h_icmp_lt (tgt := 124) dX8_judgeCase_118 (by decide) (fun q2 => ?_) (fun q2 => ?_)
    · rw [if_pos q2] at h
      refine h_aload_n dX8_judgeCase_124 rfl ?_
      refine g_X8_117  dX8_judgeCase_125 ?_
      refine h_iload_n dX8_judgeCase_128 rfl ?_
      refine h_iload dX8_judgeCase_129 rfl ?_
      obtain ⟨I1', e1, h⟩ := bnd_some h
      refine as_75  v1.toNatClampNeg rfl dX8_judgeCase_131 g1 ?_
      refine h_nmI e1 ?_
      refine h_aload_n dX8_judgeCase_132 rfl ?_
      refine g_X8_120  dX8_judgeCase_133 ?_
      refine h_iload_n dX8_judgeCase_136 rfl ?_
      refine h_iconst (1 : Int32) dX8_judgeCase_137 k_iconst_1 ?_
      refine h_iload_n dX8_judgeCase_138 rfl ?_
      refine h_shl dX8_judgeCase_139 ?_
      refine h_iconst (1 : Int32) dX8_judgeCase_140 k_iconst_1 ?_
      refine h_iload_n dX8_judgeCase_141 rfl ?_
      refine h_shl dX8_judgeCase_142 ?_
      refine h_ior dX8_judgeCase_143 ?_
      refine h_iconst (1 : Int32) dX8_judgeCase_144 k_iconst_1 ?_
      refine h_iload dX8_judgeCase_145 rfl ?_
      refine h_shl dX8_judgeCase_147 ?_
      refine h_ior dX8_judgeCase_148 ?_
      obtain ⟨I2', e2, h⟩ := bnd_some h
      refine as_76  v1.toNatClampNeg rfl dX8_judgeCase_149 g1 ?_
      refine h_nmI e2 ?_
      refine h_iinc (1 : Int32) dX8_judgeCase_150 rfl k_iinc_1 (by decide) rfl ?_
      refine h_goto (tgt := 88) dX8_judgeCase_153 (by decide) ?_
      exact h_mask [true, true, true, true, true, false] (H88 _ _ _ _ _ h)
    · rw [if_neg q2] at h
      refine h_goto (tgt := 150) dX8_judgeCase_121 (by decide) ?_
      refine h_iinc (1 : Int32) dX8_judgeCase_150 rfl k_iinc_1 (by decide) rfl ?_
      refine h_goto (tgt := 88) dX8_judgeCase_153 (by decide) ?_
      exact h_mask [true, true, true, true, true, false] (H88 _ _ _ _ _ h)
def f_X8_judgeCase_73 (k59 : Mem → Int32 → Int32 → Option (Mem))  : Nat → Mem → Int32 → Int32 → Int32 → Option (Mem)
  | 0, _, _, _, _ => none
  | fu + 1, I, v1, v2, v3 =>
    if (I 50 0 0 4) ≤ v3 then (k59 I v1 (v2 + (1 : Int32))) else (bnd (v3 + (1 : Int32)) fun x1 =>
    f_X8_judgeCase_88 (f_X8_judgeCase_73 k59 fu) FU I v1 v2 v3 x1)
theorem b_X8_judgeCase_73 (X : CX) (Q : State → Prop) {P : PMem} {O : Nat → Int64} {D : Bool} {n : Nat} {k59 : Mem → Int32 → Int32 → Option (Mem)} {r : (Mem)}  (H59 : ∀ (I : Mem) (v1 : Int32) (v2 : Int32), k59 I v1 v2 = some r → Here X cX8_judgeCase RX8 6 (none) 6 n 59 [some (.inr (.inr (8, 0, 0))), some (.inl v1), some (.inl v2), none, none, none] [] I P O D n Q) : ∀ (fu : Nat) {I : Mem} {v1 : Int32} {v2 : Int32} {v3 : Int32}, f_X8_judgeCase_73 k59 fu I v1 v2 v3 = some r → EndR X cX8_judgeCase RX8 6 (none) 6 n none r P O D Q → Here X cX8_judgeCase RX8 6 (none) 6 n 73 [some (.inr (.inr (8, 0, 0))), some (.inl v1), some (.inl v2), some (.inl v3), none, none] [] I P O D n Q := by
  intro fu
  induction fu with
  | zero => intro I v1 v2 v3 h E; cases h
  | succ fu ih =>
  intro I v1 v2 v3 h E
  have H73 : ∀ (I : Mem) (v1 : Int32) (v2 : Int32) (v3 : Int32), f_X8_judgeCase_73 k59 fu I v1 v2 v3 = some r → Here X cX8_judgeCase RX8 6 (none) 6 n 73 [some (.inr (.inr (8, 0, 0))), some (.inl v1), some (.inl v2), some (.inl v3), none, none] [] I P O D n Q := fun _ _ _ _ b => ih b E
  simp only [f_X8_judgeCase_73] at h
  refine h_iload_n dX8_judgeCase_73 rfl ?_
  refine h_aload_n dX8_judgeCase_74 rfl ?_
  refine g_X8_34  dX8_judgeCase_75 ?_
  refine h_iconst (4 : Int32) dX8_judgeCase_78 k_iconst_4 ?_
  refine al_50  4 cl_4 dX8_judgeCase_79 rfl ?_
  refine h_icmp_ge (tgt := 162) dX8_judgeCase_80 (by decide) (fun q1 => ?_) (fun q1 => ?_)
  · rw [if_pos q1] at h
    refine h_iinc (1 : Int32) dX8_judgeCase_162 rfl k_iinc_1 (by decide) rfl ?_
    refine h_goto (tgt := 59) dX8_judgeCase_165 (by decide) ?_
    exact h_mask [true, true, true, false, false, false] (H59 _ _ _ h)
  · rw [if_neg q1] at h
    refine h_iload_n dX8_judgeCase_83 rfl ?_
    refine h_iconst (1 : Int32) dX8_judgeCase_84 k_iconst_1 ?_
    refine h_iadd dX8_judgeCase_85 ?_
    obtain ⟨x1, e1, h⟩ := bnd_some h
    refine h_nmv e1 ?_
    refine h_istore dX8_judgeCase_86 (by decide) rfl ?_
    exact (b_X8_judgeCase_88 X Q H73 FU  h E)
def f_X8_judgeCase_59   : Nat → Mem → Int32 → Int32 → Option (Mem)
  | 0, _, _, _ => none
  | fu + 1, I, v1, v2 =>
    if (I 50 0 0 4) ≤ v2 then (some I) else (bnd (v2 + (1 : Int32)) fun x1 =>
    f_X8_judgeCase_73 (f_X8_judgeCase_59 fu) FU I v1 v2 x1)
theorem b_X8_judgeCase_59 (X : CX) (Q : State → Prop) {P : PMem} {O : Nat → Int64} {D : Bool} {n : Nat} {r : (Mem)}  : ∀ (fu : Nat) {I : Mem} {v1 : Int32} {v2 : Int32}, f_X8_judgeCase_59 fu I v1 v2 = some r → EndR X cX8_judgeCase RX8 6 (none) 6 n none r P O D Q → Here X cX8_judgeCase RX8 6 (none) 6 n 59 [some (.inr (.inr (8, 0, 0))), some (.inl v1), some (.inl v2), none, none, none] [] I P O D n Q := by
  intro fu
  induction fu with
  | zero => intro I v1 v2 h E; cases h
  | succ fu ih =>
  intro I v1 v2 h E
  have H59 : ∀ (I : Mem) (v1 : Int32) (v2 : Int32), f_X8_judgeCase_59 fu I v1 v2 = some r → Here X cX8_judgeCase RX8 6 (none) 6 n 59 [some (.inr (.inr (8, 0, 0))), some (.inl v1), some (.inl v2), none, none, none] [] I P O D n Q := fun _ _ _ b => ih b E
  simp only [f_X8_judgeCase_59] at h
  refine h_iload_n dX8_judgeCase_59 rfl ?_
  refine h_aload_n dX8_judgeCase_60 rfl ?_
  refine g_X8_34  dX8_judgeCase_61 ?_
  refine h_iconst (4 : Int32) dX8_judgeCase_64 k_iconst_4 ?_
  refine al_50  4 cl_4 dX8_judgeCase_65 rfl ?_
  refine h_icmp_ge (tgt := 168) dX8_judgeCase_66 (by decide) (fun q1 => ?_) (fun q1 => ?_)
  · rw [if_pos q1] at h
    cases h
    exact h_vret dX8_judgeCase_168 rfl E
  · rw [if_neg q1] at h
    refine h_iload_n dX8_judgeCase_69 rfl ?_
    refine h_iconst (1 : Int32) dX8_judgeCase_70 k_iconst_1 ?_
    refine h_iadd dX8_judgeCase_71 ?_
    obtain ⟨x1, e1, h⟩ := bnd_some h
    refine h_nmv e1 ?_
    refine h_istore_n dX8_judgeCase_72 (by decide) rfl ?_
    exact (b_X8_judgeCase_73 X Q H59 FU  h E)
def f_X8_judgeCase_2   : Nat → Mem → Int32 → Int32 → Option (Mem)
  | 0, _, _, _ => none
  | fu + 1, I, v1, v2 =>
    if (I 50 0 0 4) ≤ v2 then (gd (inb v1 6) <|
    bnd (upd4 I 75 0 0 v1.toNatClampNeg (100000 : Int32)) fun I1' =>
    bnd (upd4 I1' 76 0 0 v1.toNatClampNeg (0 : Int32)) fun I2' =>
    f_X8_judgeCase_59 FU I2' v1 (0 : Int32)) else ((f_X8_isVoided I v1 v2).bind fun y1 =>
    if y1 = 0 then (gd (inb (((5 : Int32) * v1) + v2) 30) <|
    bnd (upd4 I 74 0 0 ((((5 : Int32) * v1) + v2).toNatClampNeg) (0 : Int32)) fun I3' =>
    (f_X8_judgeCase_2 fu) I3' v1 (v2 + (1 : Int32))) else (gd (inb (((5 : Int32) * v1) + v2) 30) <|
    bnd (upd4 I 74 0 0 ((((5 : Int32) * v1) + v2).toNatClampNeg) (1 : Int32)) fun I4' =>
    (f_X8_judgeCase_2 fu) I4' v1 (v2 + (1 : Int32))))
theorem b_X8_judgeCase_2 (X : CX) (Q : State → Prop) {P : PMem} {O : Nat → Int64} {D : Bool} {n : Nat} {r : (Mem)}  : ∀ (fu : Nat) {I : Mem} {v1 : Int32} {v2 : Int32}, f_X8_judgeCase_2 fu I v1 v2 = some r → EndR X cX8_judgeCase RX8 6 (none) 6 n none r P O D Q → Here X cX8_judgeCase RX8 6 (none) 6 n 2 [some (.inr (.inr (8, 0, 0))), some (.inl v1), some (.inl v2), none, none, none] [] I P O D n Q := by
  intro fu
  induction fu with
  | zero => intro I v1 v2 h E; cases h
  | succ fu ih =>
  intro I v1 v2 h E
  have H2 : ∀ (I : Mem) (v1 : Int32) (v2 : Int32), f_X8_judgeCase_2 fu I v1 v2 = some r → Here X cX8_judgeCase RX8 6 (none) 6 n 2 [some (.inr (.inr (8, 0, 0))), some (.inl v1), some (.inl v2), none, none, none] [] I P O D n Q := fun _ _ _ b => ih b E
  simp only [f_X8_judgeCase_2] at h
  refine h_iload_n dX8_judgeCase_2 rfl ?_
  refine h_aload_n dX8_judgeCase_3 rfl ?_
  refine g_X8_34  dX8_judgeCase_4 ?_
  refine h_iconst (4 : Int32) dX8_judgeCase_7 k_iconst_4 ?_
  refine al_50  4 cl_4 dX8_judgeCase_8 rfl ?_
  refine h_icmp_ge (tgt := 42) dX8_judgeCase_9 (by decide) (fun q1 => ?_) (fun q1 => ?_)
  · rw [if_pos q1] at h
    refine h_aload_n dX8_judgeCase_42 rfl ?_
    refine g_X8_117  dX8_judgeCase_43 ?_
    refine h_iload_n dX8_judgeCase_46 rfl ?_
    refine h_ldci (100000 : Int32) dX8_judgeCase_47 kc_X8_186 ?_
    obtain ⟨g1, h⟩ := gd_some h
    obtain ⟨I1', e1, h⟩ := bnd_some h
    refine as_75  v1.toNatClampNeg rfl dX8_judgeCase_49 g1 ?_
    refine h_nmI e1 ?_
    refine h_aload_n dX8_judgeCase_50 rfl ?_
    refine g_X8_120  dX8_judgeCase_51 ?_
    refine h_iload_n dX8_judgeCase_54 rfl ?_
    refine h_iconst (0 : Int32) dX8_judgeCase_55 k_iconst_0 ?_
    obtain ⟨I2', e2, h⟩ := bnd_some h
    refine as_76  v1.toNatClampNeg rfl dX8_judgeCase_56 g1 ?_
    refine h_nmI e2 ?_
    refine h_iconst (0 : Int32) dX8_judgeCase_57 k_iconst_0 ?_
    refine h_istore_n dX8_judgeCase_58 (by decide) rfl ?_
    exact (b_X8_judgeCase_59 X Q FU  h E)
  · rw [if_neg q1] at h
    refine h_aload_n dX8_judgeCase_12 rfl ?_
    refine g_X8_114  dX8_judgeCase_13 ?_
    refine h_iconst (5 : Int32) dX8_judgeCase_16 k_iconst_5 ?_
    refine h_iload_n dX8_judgeCase_17 rfl ?_
    refine h_imul dX8_judgeCase_18 ?_
    refine h_iload_n dX8_judgeCase_19 rfl ?_
    refine h_iadd dX8_judgeCase_20 ?_
    refine h_aload_n dX8_judgeCase_21 rfl ?_
    refine h_iload_n dX8_judgeCase_22 rfl ?_
    refine h_iload_n dX8_judgeCase_23 rfl ?_
    obtain ⟨y1, hh1, h⟩ := obd_some h
    refine h_cVi [.inl v1, .inl v2] (m_X8_isVoided  hh1) cw_X8_381 dX8_judgeCase_24 rfl ok_8 (by decide) rfl (Or.inr rfl) rfl ?_
    refine h_if_eq (tgt := 34) dX8_judgeCase_27 (by decide) (fun q2 => ?_) (fun q2 => ?_)
    · rw [if_pos q2] at h
      refine h_iconst (0 : Int32) dX8_judgeCase_34 k_iconst_0 ?_
      obtain ⟨g2, h⟩ := gd_some h
      obtain ⟨I3', e3, h⟩ := bnd_some h
      refine as_74  ((((5 : Int32) * v1) + v2).toNatClampNeg) rfl dX8_judgeCase_35 g2 ?_
      refine h_nmI e3 ?_
      refine h_iinc (1 : Int32) dX8_judgeCase_36 rfl k_iinc_1 (by decide) rfl ?_
      refine h_goto (tgt := 2) dX8_judgeCase_39 (by decide) ?_
      exact (H2 _ _ _ h)
    · rw [if_neg q2] at h
      refine h_iconst (1 : Int32) dX8_judgeCase_30 k_iconst_1 ?_
      refine h_goto (tgt := 35) dX8_judgeCase_31 (by decide) ?_
      obtain ⟨g3, h⟩ := gd_some h
      obtain ⟨I4', e4, h⟩ := bnd_some h
      refine as_74  ((((5 : Int32) * v1) + v2).toNatClampNeg) rfl dX8_judgeCase_35 g3 ?_
      refine h_nmI e4 ?_
      refine h_iinc (1 : Int32) dX8_judgeCase_36 rfl k_iinc_1 (by decide) rfl ?_
      refine h_goto (tgt := 2) dX8_judgeCase_39 (by decide) ?_
      exact (H2 _ _ _ h)
def f_X8_judgeCase   (I : Mem) (v1 : Int32) : Option (Mem) :=
  f_X8_judgeCase_2 FU I v1 (0 : Int32)
theorem b_X8_judgeCase (X : CX) (Q : State → Prop) {I : Mem} {P : PMem} {O : Nat → Int64} {D : Bool} {n : Nat} {v1 : Int32} {r : (Mem)}  (h : f_X8_judgeCase I v1 = some r) (E : EndR X cX8_judgeCase RX8 6 (none) 6 n none r P O D Q) : Here X cX8_judgeCase RX8 6 (none) 6 n 0 [some (.inr (.inr (8, 0, 0))), some (.inl v1), none, none, none, none] [] I P O D n Q := by
  unfold f_X8_judgeCase at h
  refine h_iconst (0 : Int32) dX8_judgeCase_0 k_iconst_0 ?_
  refine h_istore_n dX8_judgeCase_1 (by decide) rfl ?_
  exact (b_X8_judgeCase_2 X Q FU  h E)
theorem m_X8_judgeCase {I : Mem} {P : PMem} {O : Nat → Int64} {D : Bool} {n : Nat} {v1 : Int32} {r : (Mem)}  (h : f_X8_judgeCase I v1 = some r) : MethR yX8_judgeCase cX8_judgeCase 6 (none) 6 [.inr (.inr (8, 0, 0)), .inl v1] I P O D n none r P O D n := meth_R (Nat.le_refl _) (by decide) rfl (Nat.le_of_ble_eq_true rfl) rfl (fun X Q E => b_X8_judgeCase X Q  h E)
def f_X8_judgeAll_4   : Nat → Mem → Int32 → Int32 → Option (Int32 × Mem)
  | 0, _, _, _ => none
  | fu + 1, I, v1, v2 =>
    if (I 50 0 0 5) ≤ v2 then (some (v1, I)) else ((f_X8_judgeCase I v2).bind fun y1 =>
    gd (inb v2 6) <|
    if (100000 : Int32) ≤ (y1 75 0 0 v2.toNatClampNeg) then (bnd (v1 + (0 : Int32)) fun x1 =>
    (f_X8_judgeAll_4 fu) y1 x1 (v2 + (1 : Int32))) else (bnd (v1 + (1 : Int32)) fun x2 =>
    (f_X8_judgeAll_4 fu) y1 x2 (v2 + (1 : Int32))))
theorem b_X8_judgeAll_4 (X : CX) (Q : State → Prop) {P : PMem} {O : Nat → Int64} {D : Bool} {n : Nat} {r : (Int32 × Mem)}  : ∀ (fu : Nat) {I : Mem} {v1 : Int32} {v2 : Int32}, f_X8_judgeAll_4 fu I v1 v2 = some r → EndR X cX8_judgeAll RX8 3 (some .int) 7 n (some (.inl r.1)) r.2 P O D Q → Here X cX8_judgeAll RX8 3 (some .int) 7 n 4 [some (.inr (.inr (8, 0, 0))), some (.inl v1), some (.inl v2)] [] I P O D n Q := by
  intro fu
  induction fu with
  | zero => intro I v1 v2 h E; cases h
  | succ fu ih =>
  intro I v1 v2 h E
  have H4 : ∀ (I : Mem) (v1 : Int32) (v2 : Int32), f_X8_judgeAll_4 fu I v1 v2 = some r → Here X cX8_judgeAll RX8 3 (some .int) 7 n 4 [some (.inr (.inr (8, 0, 0))), some (.inl v1), some (.inl v2)] [] I P O D n Q := fun _ _ _ b => ih b E
  simp only [f_X8_judgeAll_4] at h
  refine h_iload_n dX8_judgeAll_4 rfl ?_
  refine h_aload_n dX8_judgeAll_5 rfl ?_
  refine g_X8_34  dX8_judgeAll_6 ?_
  refine h_iconst (5 : Int32) dX8_judgeAll_9 k_iconst_5 ?_
  refine al_50  5 cl_5 dX8_judgeAll_10 rfl ?_
  refine h_icmp_ge (tgt := 44) dX8_judgeAll_11 (by decide) (fun q1 => ?_) (fun q1 => ?_)
  · rw [if_pos q1] at h
    refine h_iload_n dX8_judgeAll_44 rfl ?_
    cases h
    exact h_iret dX8_judgeAll_45 rfl E
  · rw [if_neg q1] at h
    refine h_aload_n dX8_judgeAll_14 rfl ?_
    refine h_iload_n dX8_judgeAll_15 rfl ?_
    obtain ⟨y1, hh1, h⟩ := obd_some h
    refine h_cVv [.inl v2] (m_X8_judgeCase  hh1) cw_X8_401 dX8_judgeAll_16 rfl ok_8 (by decide) rfl (Or.inr rfl) rfl ?_
    refine h_iload_n dX8_judgeAll_19 rfl ?_
    refine h_aload_n dX8_judgeAll_20 rfl ?_
    refine g_X8_117  dX8_judgeAll_21 ?_
    refine h_iload_n dX8_judgeAll_24 rfl ?_
    obtain ⟨g1, h⟩ := gd_some h
    refine al_75  v2.toNatClampNeg rfl dX8_judgeAll_25 g1 ?_
    refine h_ldci (100000 : Int32) dX8_judgeAll_26 kc_X8_186 ?_
    refine h_icmp_ge (tgt := 35) dX8_judgeAll_28 (by decide) (fun q2 => ?_) (fun q2 => ?_)
    · rw [if_pos q2] at h
      refine h_iconst (0 : Int32) dX8_judgeAll_35 k_iconst_0 ?_
      refine h_iadd dX8_judgeAll_36 ?_
      obtain ⟨x1, e1, h⟩ := bnd_some h
      refine h_nmv e1 ?_
      refine h_istore_n dX8_judgeAll_37 (by decide) rfl ?_
      refine h_iinc (1 : Int32) dX8_judgeAll_38 rfl k_iinc_1 (by decide) rfl ?_
      refine h_goto (tgt := 4) dX8_judgeAll_41 (by decide) ?_
      exact (H4 _ _ _ h)
    · rw [if_neg q2] at h
      refine h_iconst (1 : Int32) dX8_judgeAll_31 k_iconst_1 ?_
      refine h_goto (tgt := 36) dX8_judgeAll_32 (by decide) ?_
      refine h_iadd dX8_judgeAll_36 ?_
      obtain ⟨x2, e2, h⟩ := bnd_some h
      refine h_nmv e2 ?_
      refine h_istore_n dX8_judgeAll_37 (by decide) rfl ?_
      refine h_iinc (1 : Int32) dX8_judgeAll_38 rfl k_iinc_1 (by decide) rfl ?_
      refine h_goto (tgt := 4) dX8_judgeAll_41 (by decide) ?_
      exact (H4 _ _ _ h)
def f_X8_judgeAll   (I : Mem) : Option (Int32 × Mem) :=
  f_X8_judgeAll_4 FU I (0 : Int32) (0 : Int32)
theorem b_X8_judgeAll (X : CX) (Q : State → Prop) {I : Mem} {P : PMem} {O : Nat → Int64} {D : Bool} {n : Nat} {r : (Int32 × Mem)}  (h : f_X8_judgeAll I = some r) (E : EndR X cX8_judgeAll RX8 3 (some .int) 7 n (some (.inl r.1)) r.2 P O D Q) : Here X cX8_judgeAll RX8 3 (some .int) 7 n 0 [some (.inr (.inr (8, 0, 0))), none, none] [] I P O D n Q := by
  unfold f_X8_judgeAll at h
  refine h_iconst (0 : Int32) dX8_judgeAll_0 k_iconst_0 ?_
  refine h_istore_n dX8_judgeAll_1 (by decide) rfl ?_
  refine h_iconst (0 : Int32) dX8_judgeAll_2 k_iconst_0 ?_
  refine h_istore_n dX8_judgeAll_3 (by decide) rfl ?_
  exact (b_X8_judgeAll_4 X Q FU  h E)
theorem m_X8_judgeAll {I : Mem} {P : PMem} {O : Nat → Int64} {D : Bool} {n : Nat}  {r : (Int32 × Mem)}  (h : f_X8_judgeAll I = some r) : MethR yX8_judgeAll cX8_judgeAll 3 (some .int) 7 [.inr (.inr (8, 0, 0))] I P O D n (some (.inl r.1)) r.2 P O D n := meth_R (Nat.le_refl _) (by decide) rfl (Nat.le_of_ble_eq_true rfl) rfl (fun X Q E => b_X8_judgeAll X Q  h E)
def f_X8_tell_39 (k31 : Mem → Int32 → Option (Int32 × Mem))  : Nat → Mem → Int32 → Int32 → Option (Int32 × Mem)
  | 0, _, _, _ => none
  | fu + 1, I, v1, v2 =>
    if (I 50 0 0 4) ≤ v2 then (k31 I (v1 + (1 : Int32))) else ((f_X8_townOn I v2 v1).bind fun y1 =>
    if y1 = (-1 : Int32) then ((f_X8_tell_39 k31 fu) I v1 (v2 + (1 : Int32))) else ((f_X8_hear I v2 y1 v1).bind fun y2 =>
    (f_X8_tell_39 k31 fu) y2 v1 (v2 + (1 : Int32))))
theorem b_X8_tell_39 (X : CX) (Q : State → Prop) {P : PMem} {O : Nat → Int64} {D : Bool} {n : Nat} {k31 : Mem → Int32 → Option (Int32 × Mem)} {r : (Int32 × Mem)}  (H31 : ∀ (I : Mem) (v1 : Int32), k31 I v1 = some r → Here X cX8_tell RX8 4 (some .int) 8 n 31 [some (.inr (.inr (8, 0, 0))), some (.inl v1), none, none] [] I P O D n Q) : ∀ (fu : Nat) {I : Mem} {v1 : Int32} {v2 : Int32}, f_X8_tell_39 k31 fu I v1 v2 = some r → EndR X cX8_tell RX8 4 (some .int) 8 n (some (.inl r.1)) r.2 P O D Q → Here X cX8_tell RX8 4 (some .int) 8 n 39 [some (.inr (.inr (8, 0, 0))), some (.inl v1), some (.inl v2), none] [] I P O D n Q := by
  intro fu
  induction fu with
  | zero => intro I v1 v2 h E; cases h
  | succ fu ih =>
  intro I v1 v2 h E
  have H39 : ∀ (I : Mem) (v1 : Int32) (v2 : Int32), f_X8_tell_39 k31 fu I v1 v2 = some r → Here X cX8_tell RX8 4 (some .int) 8 n 39 [some (.inr (.inr (8, 0, 0))), some (.inl v1), some (.inl v2), none] [] I P O D n Q := fun _ _ _ b => ih b E
  simp only [f_X8_tell_39] at h
  refine h_iload_n dX8_tell_39 rfl ?_
  refine h_aload_n dX8_tell_40 rfl ?_
  refine g_X8_34  dX8_tell_41 ?_
  refine h_iconst (4 : Int32) dX8_tell_44 k_iconst_4 ?_
  refine al_50  4 cl_4 dX8_tell_45 rfl ?_
  refine h_icmp_ge (tgt := 74) dX8_tell_46 (by decide) (fun q1 => ?_) (fun q1 => ?_)
  · rw [if_pos q1] at h
    refine h_iinc (1 : Int32) dX8_tell_74 rfl k_iinc_1 (by decide) rfl ?_
    refine h_goto (tgt := 31) dX8_tell_77 (by decide) ?_
    exact h_mask [true, true, false, false] (H31 _ _ h)
  · rw [if_neg q1] at h
    refine h_aload_n dX8_tell_49 rfl ?_
    refine h_iload_n dX8_tell_50 rfl ?_
    refine h_iload_n dX8_tell_51 rfl ?_
    obtain ⟨y1, hh1, h⟩ := obd_some h
    refine h_cVi [.inl v2, .inl v1] (m_X8_townOn  hh1) cw_X8_346 dX8_tell_52 rfl ok_8 (by decide) rfl (Or.inr rfl) rfl ?_
    refine h_istore_n dX8_tell_55 (by decide) rfl ?_
    refine h_iload_n dX8_tell_56 rfl ?_
    refine h_iconst (-1 : Int32) dX8_tell_57 k_iconst_m1 ?_
    refine h_icmp_eq (tgt := 68) dX8_tell_58 (by decide) (fun q2 => ?_) (fun q2 => ?_)
    · rw [if_pos q2] at h
      refine h_iinc (1 : Int32) dX8_tell_68 rfl k_iinc_1 (by decide) rfl ?_
      refine h_goto (tgt := 39) dX8_tell_71 (by decide) ?_
      exact h_mask [true, true, true, false] (H39 _ _ _ h)
    · rw [if_neg q2] at h
      refine h_aload_n dX8_tell_61 rfl ?_
      refine h_iload_n dX8_tell_62 rfl ?_
      refine h_iload_n dX8_tell_63 rfl ?_
      refine h_iload_n dX8_tell_64 rfl ?_
      obtain ⟨y2, hh2, h⟩ := obd_some h
      refine h_cVv [.inl v2, .inl y1, .inl v1] (m_X8_hear  hh2) cw_X8_394 dX8_tell_65 rfl ok_8 (by decide) rfl (Or.inr rfl) rfl ?_
      refine h_iinc (1 : Int32) dX8_tell_68 rfl k_iinc_1 (by decide) rfl ?_
      refine h_goto (tgt := 39) dX8_tell_71 (by decide) ?_
      exact h_mask [true, true, true, false] (H39 _ _ _ h)
def f_X8_tell_31   : Nat → Mem → Int32 → Option (Int32 × Mem)
  | 0, _, _ => none
  | fu + 1, I, v1 =>
    if (114 : Int32) < v1 then ((f_X8_judgeAll I).bind fun y1 =>
    some (y1.1, y1.2)) else (f_X8_tell_39 (f_X8_tell_31 fu) FU I v1 (0 : Int32))
theorem b_X8_tell_31 (X : CX) (Q : State → Prop) {P : PMem} {O : Nat → Int64} {D : Bool} {n : Nat} {r : (Int32 × Mem)}  : ∀ (fu : Nat) {I : Mem} {v1 : Int32}, f_X8_tell_31 fu I v1 = some r → EndR X cX8_tell RX8 4 (some .int) 8 n (some (.inl r.1)) r.2 P O D Q → Here X cX8_tell RX8 4 (some .int) 8 n 31 [some (.inr (.inr (8, 0, 0))), some (.inl v1), none, none] [] I P O D n Q := by
  intro fu
  induction fu with
  | zero => intro I v1 h E; cases h
  | succ fu ih =>
  intro I v1 h E
  have H31 : ∀ (I : Mem) (v1 : Int32), f_X8_tell_31 fu I v1 = some r → Here X cX8_tell RX8 4 (some .int) 8 n 31 [some (.inr (.inr (8, 0, 0))), some (.inl v1), none, none] [] I P O D n Q := fun _ _ b => ih b E
  simp only [f_X8_tell_31] at h
  refine h_iload_n dX8_tell_31 rfl ?_
  refine h_bipush (114 : Int32) dX8_tell_32 k_bipush_114 ?_
  refine h_icmp_gt (tgt := 80) dX8_tell_34 (by decide) (fun q1 => ?_) (fun q1 => ?_)
  · rw [if_pos q1] at h
    refine h_aload_n dX8_tell_80 rfl ?_
    obtain ⟨y1, hh1, h⟩ := obd_some h
    refine h_cVi [] (m_X8_judgeAll  hh1) cw_X8_398 dX8_tell_81 rfl ok_8 (by decide) rfl (Or.inr rfl) rfl ?_
    cases h
    exact h_iret dX8_tell_84 rfl E
  · rw [if_neg q1] at h
    refine h_iconst (0 : Int32) dX8_tell_37 k_iconst_0 ?_
    refine h_istore_n dX8_tell_38 (by decide) rfl ?_
    exact (b_X8_tell_39 X Q H31 FU  h E)
def f_X8_tell_10   : Nat → Mem → Int32 → Option (Int32 × Mem)
  | 0, _, _ => none
  | fu + 1, I, v1 =>
    if (30 : Int32) ≤ v1 then (f_X8_tell_31 FU I (0 : Int32)) else (gd (inb v1 30) <|
    bnd (upd4 I 71 0 0 v1.toNatClampNeg (-1 : Int32)) fun I1' =>
    (f_X8_tell_10 fu) I1' (v1 + (1 : Int32)))
theorem b_X8_tell_10 (X : CX) (Q : State → Prop) {P : PMem} {O : Nat → Int64} {D : Bool} {n : Nat} {r : (Int32 × Mem)}  : ∀ (fu : Nat) {I : Mem} {v1 : Int32}, f_X8_tell_10 fu I v1 = some r → EndR X cX8_tell RX8 4 (some .int) 8 n (some (.inl r.1)) r.2 P O D Q → Here X cX8_tell RX8 4 (some .int) 8 n 10 [some (.inr (.inr (8, 0, 0))), some (.inl v1), none, none] [] I P O D n Q := by
  intro fu
  induction fu with
  | zero => intro I v1 h E; cases h
  | succ fu ih =>
  intro I v1 h E
  have H10 : ∀ (I : Mem) (v1 : Int32), f_X8_tell_10 fu I v1 = some r → Here X cX8_tell RX8 4 (some .int) 8 n 10 [some (.inr (.inr (8, 0, 0))), some (.inl v1), none, none] [] I P O D n Q := fun _ _ b => ih b E
  simp only [f_X8_tell_10] at h
  refine h_iload_n dX8_tell_10 rfl ?_
  refine h_bipush (30 : Int32) dX8_tell_11 k_bipush_30 ?_
  refine h_icmp_ge (tgt := 29) dX8_tell_13 (by decide) (fun q1 => ?_) (fun q1 => ?_)
  · rw [if_pos q1] at h
    refine h_iconst (0 : Int32) dX8_tell_29 k_iconst_0 ?_
    refine h_istore_n dX8_tell_30 (by decide) rfl ?_
    exact (b_X8_tell_31 X Q FU  h E)
  · rw [if_neg q1] at h
    refine h_aload_n dX8_tell_16 rfl ?_
    refine g_X8_106  dX8_tell_17 ?_
    refine h_iload_n dX8_tell_20 rfl ?_
    refine h_iconst (-1 : Int32) dX8_tell_21 k_iconst_m1 ?_
    obtain ⟨g1, h⟩ := gd_some h
    obtain ⟨I1', e1, h⟩ := bnd_some h
    refine as_71  v1.toNatClampNeg rfl dX8_tell_22 g1 ?_
    refine h_nmI e1 ?_
    refine h_iinc (1 : Int32) dX8_tell_23 rfl k_iinc_1 (by decide) rfl ?_
    refine h_goto (tgt := 10) dX8_tell_26 (by decide) ?_
    exact (H10 _ _ h)
def f_X8_tell   (I : Mem) : Option (Int32 × Mem) :=
  (f_X8_tellStops I).bind fun y1 =>
  (f_X8_tellMeetings y1).bind fun y2 =>
  f_X8_tell_10 FU y2 (0 : Int32)
theorem b_X8_tell (X : CX) (Q : State → Prop) {I : Mem} {P : PMem} {O : Nat → Int64} {D : Bool} {n : Nat} {r : (Int32 × Mem)}  (h : f_X8_tell I = some r) (E : EndR X cX8_tell RX8 4 (some .int) 8 n (some (.inl r.1)) r.2 P O D Q) : Here X cX8_tell RX8 4 (some .int) 8 n 0 [some (.inr (.inr (8, 0, 0))), none, none, none] [] I P O D n Q := by
  unfold f_X8_tell at h
  refine h_aload_n dX8_tell_0 rfl ?_
  obtain ⟨y1, hh1, h⟩ := obd_some h
  refine h_cVv [] (m_X8_tellStops  hh1) cw_X8_388 dX8_tell_1 rfl ok_8 (by decide) rfl (Or.inr rfl) rfl ?_
  refine h_aload_n dX8_tell_4 rfl ?_
  obtain ⟨y2, hh2, h⟩ := obd_some h
  refine h_cVv [] (m_X8_tellMeetings  hh2) cw_X8_391 dX8_tell_5 rfl ok_8 (by decide) rfl (Or.inr rfl) rfl ?_
  refine h_iconst (0 : Int32) dX8_tell_8 k_iconst_0 ?_
  refine h_istore_n dX8_tell_9 (by decide) rfl ?_
  exact (b_X8_tell_10 X Q FU  h E)
theorem m_X8_tell {I : Mem} {P : PMem} {O : Nat → Int64} {D : Bool} {n : Nat}  {r : (Int32 × Mem)}  (h : f_X8_tell I = some r) : MethR yX8_tell cX8_tell 4 (some .int) 8 [.inr (.inr (8, 0, 0))] I P O D n (some (.inl r.1)) r.2 P O D n := meth_R (Nat.le_refl _) (by decide) rfl (Nat.le_of_ble_eq_true rfl) rfl (fun X Q E => b_X8_tell X Q  h E)
def f_X8_tellNow   (I : Mem) : Option (Int32 × Mem) :=
  (f_X8_set I).bind fun y1 =>
  (f_X8_tell y1).bind fun y2 =>
  some (y2.1, y2.2)
theorem b_X8_tellNow (X : CX) (Q : State → Prop) {I : Mem} {P : PMem} {O : Nat → Int64} {D : Bool} {n : Nat} {r : (Int32 × Mem)}  (h : f_X8_tellNow I = some r) (E : EndR X cX8_tellNow RX8 1 (some .int) 9 n (some (.inl r.1)) r.2 P O D Q) : Here X cX8_tellNow RX8 1 (some .int) 9 n 0 [some (.inr (.inr (8, 0, 0)))] [] I P O D n Q := by
  unfold f_X8_tellNow at h
  refine h_aload_n dX8_tellNow_0 rfl ?_
  obtain ⟨y1, hh1, h⟩ := obd_some h
  refine h_cVv [] (m_X8_set  hh1) cw_X8_404 dX8_tellNow_1 rfl ok_8 (by decide) rfl (Or.inr rfl) rfl ?_
  refine h_aload_n dX8_tellNow_4 rfl ?_
  obtain ⟨y2, hh2, h⟩ := obd_some h
  refine h_cVi [] (m_X8_tell  hh2) cw_X8_407 dX8_tellNow_5 rfl ok_8 (by decide) rfl (Or.inr rfl) rfl ?_
  cases h
  exact h_iret dX8_tellNow_8 rfl E
theorem m_X8_tellNow {I : Mem} {P : PMem} {O : Nat → Int64} {D : Bool} {n : Nat}  {r : (Int32 × Mem)}  (h : f_X8_tellNow I = some r) : MethR yX8_tellNow cX8_tellNow 1 (some .int) 9 [.inr (.inr (8, 0, 0))] I P O D n (some (.inl r.1)) r.2 P O D n := meth_R (Nat.le_refl _) (by decide) rfl (Nat.le_of_ble_eq_true rfl) rfl (fun X Q E => b_X8_tellNow X Q  h E)
def f_X8_orNone  (I : Mem) (v0 : Int32) : Option (Int32) :=
  if v0 < (100000 : Int32) then (some v0) else (some (-1 : Int32))
theorem b_X8_orNone (X : CX) (Q : State → Prop) {I : Mem} {P : PMem} {O : Nat → Int64} {D : Bool} {n : Nat} {v0 : Int32} {r : (Int32)}  (h : f_X8_orNone I v0 = some r) (E : EndR X cX8_orNone RX8 1 (some .int) 2 n (some (.inl r)) I P O D Q) : Here X cX8_orNone RX8 1 (some .int) 2 n 0 [some (.inl v0)] [] I P O D n Q := by
  unfold f_X8_orNone at h
  refine h_iload_n dX8_orNone_0 rfl ?_
  refine h_ldci (100000 : Int32) dX8_orNone_1 kc_X8_186 ?_
  refine h_icmp_lt (tgt := 10) dX8_orNone_3 (by decide) (fun q1 => ?_) (fun q1 => ?_)
  · rw [if_pos q1] at h
    refine h_iload_n dX8_orNone_10 rfl ?_
    cases h
    exact h_iret dX8_orNone_11 rfl E
  · rw [if_neg q1] at h
    refine h_iconst (-1 : Int32) dX8_orNone_6 k_iconst_m1 ?_
    refine h_goto (tgt := 11) dX8_orNone_7 (by decide) ?_
    cases h
    exact h_iret dX8_orNone_11 rfl E
theorem m_X8_orNone {I : Mem} {P : PMem} {O : Nat → Int64} {D : Bool} {n : Nat} {v0 : Int32} {r : (Int32)}  (h : f_X8_orNone I v0 = some r) : MethR yX8_orNone cX8_orNone 1 (some .int) 2 [.inl v0] I P O D n (some (.inl r)) I P O D n := meth_R (Nat.le_refl _) (by decide) rfl (Nat.le_of_ble_eq_true rfl) rfl (fun X Q E => b_X8_orNone X Q  h E)
def f_X8_bitsOf_4  (I : Mem) : Nat → Int32 → Int32 → Option (Int32)
  | 0, _, _ => none
  | fu + 1, v1, v2 =>
    if v2 = 0 then (some v1) else (bnd (v2 &&& (v2 - (1 : Int32))) fun x1 =>
    (f_X8_bitsOf_4 I fu) (v1 + (1 : Int32)) x1)
theorem b_X8_bitsOf_4 (X : CX) (Q : State → Prop) {I : Mem} {P : PMem} {O : Nat → Int64} {D : Bool} {n : Nat} {r : (Int32)}  : ∀ (fu : Nat) {v1 : Int32} {v2 : Int32}, f_X8_bitsOf_4 I fu v1 v2 = some r → EndR X cX8_bitsOf RX8 3 (some .int) 2 n (some (.inl r)) I P O D Q → Here X cX8_bitsOf RX8 3 (some .int) 2 n 4 [none, some (.inl v1), some (.inl v2)] [] I P O D n Q := by
  intro fu
  induction fu with
  | zero => intro v1 v2 h E; cases h
  | succ fu ih =>
  intro v1 v2 h E
  have H4 : ∀ (v1 : Int32) (v2 : Int32), f_X8_bitsOf_4 I fu v1 v2 = some r → Here X cX8_bitsOf RX8 3 (some .int) 2 n 4 [none, some (.inl v1), some (.inl v2)] [] I P O D n Q := fun _ _ b => ih b E
  simp only [f_X8_bitsOf_4] at h
  refine h_iload_n dX8_bitsOf_4 rfl ?_
  refine h_if_eq (tgt := 20) dX8_bitsOf_5 (by decide) (fun q1 => ?_) (fun q1 => ?_)
  · rw [if_pos q1] at h
    refine h_iload_n dX8_bitsOf_20 rfl ?_
    cases h
    exact h_iret dX8_bitsOf_21 rfl E
  · rw [if_neg q1] at h
    refine h_iinc (1 : Int32) dX8_bitsOf_8 rfl k_iinc_1 (by decide) rfl ?_
    refine h_iload_n dX8_bitsOf_11 rfl ?_
    refine h_iload_n dX8_bitsOf_12 rfl ?_
    refine h_iconst (1 : Int32) dX8_bitsOf_13 k_iconst_1 ?_
    refine h_isub dX8_bitsOf_14 ?_
    refine h_iand dX8_bitsOf_15 ?_
    obtain ⟨x1, e1, h⟩ := bnd_some h
    refine h_nmv e1 ?_
    refine h_istore_n dX8_bitsOf_16 (by decide) rfl ?_
    refine h_goto (tgt := 4) dX8_bitsOf_17 (by decide) ?_
    exact (H4 _ _ h)
def f_X8_bitsOf  (I : Mem) (v0 : Int32) : Option (Int32) :=
  f_X8_bitsOf_4 I FU (0 : Int32) v0
theorem b_X8_bitsOf (X : CX) (Q : State → Prop) {I : Mem} {P : PMem} {O : Nat → Int64} {D : Bool} {n : Nat} {v0 : Int32} {r : (Int32)}  (h : f_X8_bitsOf I v0 = some r) (E : EndR X cX8_bitsOf RX8 3 (some .int) 2 n (some (.inl r)) I P O D Q) : Here X cX8_bitsOf RX8 3 (some .int) 2 n 0 [some (.inl v0), none, none] [] I P O D n Q := by
  unfold f_X8_bitsOf at h
  refine h_iconst (0 : Int32) dX8_bitsOf_0 k_iconst_0 ?_
  refine h_istore_n dX8_bitsOf_1 (by decide) rfl ?_
  refine h_iload_n dX8_bitsOf_2 rfl ?_
  refine h_istore_n dX8_bitsOf_3 (by decide) rfl ?_
  exact h_mask [false, true, true] (b_X8_bitsOf_4 X Q FU  h E)
theorem m_X8_bitsOf {I : Mem} {P : PMem} {O : Nat → Int64} {D : Bool} {n : Nat} {v0 : Int32} {r : (Int32)}  (h : f_X8_bitsOf I v0 = some r) : MethR yX8_bitsOf cX8_bitsOf 3 (some .int) 2 [.inl v0] I P O D n (some (.inl r)) I P O D n := meth_R (Nat.le_refl _) (by decide) rfl (Nat.le_of_ble_eq_true rfl) rfl (fun X Q E => b_X8_bitsOf X Q  h E)
