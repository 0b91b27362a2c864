theorem dX8_season_0 : decode cX8_season 0 = .ok (.aload_n 0, 1) := by decide +kernel
theorem dX8_season_1 : decode cX8_season 1 = .ok (.iconst 0, 1) := by decide +kernel
theorem dX8_season_2 : decode cX8_season 2 = .ok (.putfield 150, 3) := by decide +kernel
theorem dX8_season_5 : decode cX8_season 5 = .ok (.iload_n 3, 1) := by decide +kernel
theorem dX8_season_6 : decode cX8_season 6 = .ok (.i2l, 1) := by decide +kernel
theorem dX8_season_7 : decode cX8_season 7 = .ok (.lconst 0, 1) := by decide +kernel
theorem dX8_season_8 : decode cX8_season 8 = .ok (.ldc2_w 455, 3) := by decide +kernel
theorem dX8_season_11 : decode cX8_season 11 = .ok (.invokestatic 153, 3) := by decide +kernel
theorem dX8_season_14 : decode cX8_season 14 = .ok (.ifCond .ne 9, 3) := by decide +kernel
theorem dX8_season_17 : decode cX8_season 17 = .ok (.aload_n 0, 1) := by decide +kernel
theorem dX8_season_18 : decode cX8_season 18 = .ok (.iconst 1, 1) := by decide +kernel
theorem dX8_season_19 : decode cX8_season 19 = .ok (.invokevirtual 298, 3) := by decide +kernel
theorem dX8_season_22 : decode cX8_season 22 = .ok (.ireturn, 1) := by decide +kernel
theorem dX8_season_23 : decode cX8_season 23 = .ok (.iload_n 2, 1) := by decide +kernel
theorem dX8_season_24 : decode cX8_season 24 = .ok (.i2l, 1) := by decide +kernel
theorem dX8_season_25 : decode cX8_season 25 = .ok (.lconst 0, 1) := by decide +kernel
theorem dX8_season_26 : decode cX8_season 26 = .ok (.ldc2_w 468, 3) := by decide +kernel
theorem dX8_season_29 : decode cX8_season 29 = .ok (.invokestatic 153, 3) := by decide +kernel
theorem dX8_season_32 : decode cX8_season 32 = .ok (.ifCond .ne 9, 3) := by decide +kernel
theorem dX8_season_35 : decode cX8_season 35 = .ok (.aload_n 0, 1) := by decide +kernel
theorem dX8_season_36 : decode cX8_season 36 = .ok (.iconst 2, 1) := by decide +kernel
theorem dX8_season_37 : decode cX8_season 37 = .ok (.invokevirtual 298, 3) := by decide +kernel
theorem dX8_season_40 : decode cX8_season 40 = .ok (.ireturn, 1) := by decide +kernel
theorem dX8_season_41 : decode cX8_season 41 = .ok (.aload_n 0, 1) := by decide +kernel
theorem dX8_season_42 : decode cX8_season 42 = .ok (.invokevirtual 404, 3) := by decide +kernel
theorem dX8_season_45 : decode cX8_season 45 = .ok (.aload_n 0, 1) := by decide +kernel
theorem dX8_season_46 : decode cX8_season 46 = .ok (.iload_n 1, 1) := by decide +kernel
theorem dX8_season_47 : decode cX8_season 47 = .ok (.putfield 464, 3) := by decide +kernel
theorem dX8_season_50 : decode cX8_season 50 = .ok (.iconst 0, 1) := by decide +kernel
theorem dX8_season_51 : decode cX8_season 51 = .ok (.istore 4, 2) := by decide +kernel
theorem dX8_season_53 : decode cX8_season 53 = .ok (.iconst 0, 1) := by decide +kernel
theorem dX8_season_54 : decode cX8_season 54 = .ok (.istore 5, 2) := by decide +kernel
theorem dX8_season_56 : decode cX8_season 56 = .ok (.iconst 0, 1) := by decide +kernel
theorem dX8_season_57 : decode cX8_season 57 = .ok (.istore 6, 2) := by decide +kernel
theorem dX8_season_59 : decode cX8_season 59 = .ok (.aload_n 0, 1) := by decide +kernel
theorem dX8_season_60 : decode cX8_season 60 = .ok (.getfield 320, 3) := by decide +kernel
theorem dX8_season_63 : decode cX8_season 63 = .ok (.istore 7, 2) := by decide +kernel
theorem dX8_season_65 : decode cX8_season 65 = .ok (.iconst 0, 1) := by decide +kernel
theorem dX8_season_66 : decode cX8_season 66 = .ok (.istore 8, 2) := by decide +kernel
theorem dX8_season_68 : decode cX8_season 68 = .ok (.iload 8, 2) := by decide +kernel
theorem dX8_season_70 : decode cX8_season 70 = .ok (.iload_n 2, 1) := by decide +kernel
theorem dX8_season_71 : decode cX8_season 71 = .ok (.if_icmp .ge 143, 3) := by decide +kernel
theorem dX8_season_74 : decode cX8_season 74 = .ok (.iconst 0, 1) := by decide +kernel
theorem dX8_season_75 : decode cX8_season 75 = .ok (.istore 9, 2) := by decide +kernel
theorem dX8_season_77 : decode cX8_season 77 = .ok (.iload 9, 2) := by decide +kernel
theorem dX8_season_79 : decode cX8_season 79 = .ok (.iconst 2, 1) := by decide +kernel
theorem dX8_season_80 : decode cX8_season 80 = .ok (.if_icmp .ge 69, 3) := by decide +kernel
theorem dX8_season_83 : decode cX8_season 83 = .ok (.aload_n 0, 1) := by decide +kernel
theorem dX8_season_84 : decode cX8_season 84 = .ok (.getfield 34, 3) := by decide +kernel
theorem dX8_season_87 : decode cX8_season 87 = .ok (.iconst 0, 1) := by decide +kernel
theorem dX8_season_88 : decode cX8_season 88 = .ok (.iaload, 1) := by decide +kernel
theorem dX8_season_89 : decode cX8_season 89 = .ok (.ifCond .le 60, 3) := by decide +kernel
theorem dX8_season_92 : decode cX8_season 92 = .ok (.aload_n 0, 1) := by decide +kernel
theorem dX8_season_93 : decode cX8_season 93 = .ok (.aload_n 0, 1) := by decide +kernel
theorem dX8_season_94 : decode cX8_season 94 = .ok (.getfield 34, 3) := by decide +kernel
theorem dX8_season_97 : decode cX8_season 97 = .ok (.iconst 0, 1) := by decide +kernel
theorem dX8_season_98 : decode cX8_season 98 = .ok (.iaload, 1) := by decide +kernel
theorem dX8_season_99 : decode cX8_season 99 = .ok (.invokevirtual 470, 3) := by decide +kernel
theorem dX8_season_102 : decode cX8_season 102 = .ok (.istore 10, 2) := by decide +kernel
theorem dX8_season_104 : decode cX8_season 104 = .ok (.aload_n 0, 1) := by decide +kernel
theorem dX8_season_105 : decode cX8_season 105 = .ok (.bipush 30, 2) := by decide +kernel
theorem dX8_season_107 : decode cX8_season 107 = .ok (.invokevirtual 470, 3) := by decide +kernel
theorem dX8_season_110 : decode cX8_season 110 = .ok (.istore 11, 2) := by decide +kernel
theorem dX8_season_112 : decode cX8_season 112 = .ok (.aload_n 0, 1) := by decide +kernel
theorem dX8_season_113 : decode cX8_season 113 = .ok (.getfield 79, 3) := by decide +kernel
theorem dX8_season_116 : decode cX8_season 116 = .ok (.aload_n 0, 1) := by decide +kernel
theorem dX8_season_117 : decode cX8_season 117 = .ok (.getfield 320, 3) := by decide +kernel
theorem dX8_season_120 : decode cX8_season 120 = .ok (.iload 10, 2) := by decide +kernel
theorem dX8_season_122 : decode cX8_season 122 = .ok (.iload 11, 2) := by decide +kernel
theorem dX8_season_124 : decode cX8_season 124 = .ok (.aload_n 0, 1) := by decide +kernel
theorem dX8_season_125 : decode cX8_season 125 = .ok (.bipush 6, 2) := by decide +kernel
theorem dX8_season_127 : decode cX8_season 127 = .ok (.invokevirtual 470, 3) := by decide +kernel
theorem dX8_season_130 : decode cX8_season 130 = .ok (.invokestatic 443, 3) := by decide +kernel
theorem dX8_season_133 : decode cX8_season 133 = .ok (.aload_n 0, 1) := by decide +kernel
theorem dX8_season_134 : decode cX8_season 134 = .ok (.dup, 1) := by decide +kernel
theorem dX8_season_135 : decode cX8_season 135 = .ok (.getfield 320, 3) := by decide +kernel
theorem dX8_season_138 : decode cX8_season 138 = .ok (.iconst 1, 1) := by decide +kernel
theorem dX8_season_139 : decode cX8_season 139 = .ok (.iadd, 1) := by decide +kernel
theorem dX8_season_140 : decode cX8_season 140 = .ok (.putfield 320, 3) := by decide +kernel
theorem dX8_season_143 : decode cX8_season 143 = .ok (.iinc 9 1, 3) := by decide +kernel
theorem dX8_season_146 : decode cX8_season 146 = .ok (.goto (-69), 3) := by decide +kernel
theorem dX8_season_149 : decode cX8_season 149 = .ok (.aload_n 0, 1) := by decide +kernel
theorem dX8_season_150 : decode cX8_season 150 = .ok (.invokevirtual 407, 3) := by decide +kernel
theorem dX8_season_153 : decode cX8_season 153 = .ok (.istore 9, 2) := by decide +kernel
theorem dX8_season_155 : decode cX8_season 155 = .ok (.aload_n 0, 1) := by decide +kernel
theorem dX8_season_156 : decode cX8_season 156 = .ok (.iload 7, 2) := by decide +kernel
theorem dX8_season_158 : decode cX8_season 158 = .ok (.putfield 320, 3) := by decide +kernel
theorem dX8_season_161 : decode cX8_season 161 = .ok (.iload 4, 2) := by decide +kernel
theorem dX8_season_163 : decode cX8_season 163 = .ok (.iload 9, 2) := by decide +kernel
theorem dX8_season_165 : decode cX8_season 165 = .ok (.iadd, 1) := by decide +kernel
theorem dX8_season_166 : decode cX8_season 166 = .ok (.istore 4, 2) := by decide +kernel
theorem dX8_season_168 : decode cX8_season 168 = .ok (.iload 8, 2) := by decide +kernel
theorem dX8_season_170 : decode cX8_season 170 = .ok (.ifCond .ne 8, 3) := by decide +kernel
theorem dX8_season_173 : decode cX8_season 173 = .ok (.iload 9, 2) := by decide +kernel
theorem dX8_season_175 : decode cX8_season 175 = .ok (.goto 10, 3) := by decide +kernel
theorem dX8_season_178 : decode cX8_season 178 = .ok (.iload 5, 2) := by decide +kernel
theorem dX8_season_180 : decode cX8_season 180 = .ok (.iload 9, 2) := by decide +kernel
theorem dX8_season_182 : decode cX8_season 182 = .ok (.invokestatic 187, 3) := by decide +kernel
theorem dX8_season_185 : decode cX8_season 185 = .ok (.istore 5, 2) := by decide +kernel
theorem dX8_season_187 : decode cX8_season 187 = .ok (.iload 6, 2) := by decide +kernel
theorem dX8_season_189 : decode cX8_season 189 = .ok (.iload 9, 2) := by decide +kernel
theorem dX8_season_191 : decode cX8_season 191 = .ok (.aload_n 0, 1) := by decide +kernel
theorem dX8_season_192 : decode cX8_season 192 = .ok (.getfield 34, 3) := by decide +kernel
theorem dX8_season_195 : decode cX8_season 195 = .ok (.iconst 5, 1) := by decide +kernel
theorem dX8_season_196 : decode cX8_season 196 = .ok (.iaload, 1) := by decide +kernel
theorem dX8_season_197 : decode cX8_season 197 = .ok (.if_icmp .ne 7, 3) := by decide +kernel
theorem dX8_season_200 : decode cX8_season 200 = .ok (.iconst 1, 1) := by decide +kernel
theorem dX8_season_201 : decode cX8_season 201 = .ok (.goto 4, 3) := by decide +kernel
theorem dX8_season_204 : decode cX8_season 204 = .ok (.iconst 0, 1) := by decide +kernel
theorem dX8_season_205 : decode cX8_season 205 = .ok (.iadd, 1) := by decide +kernel
theorem dX8_season_206 : decode cX8_season 206 = .ok (.istore 6, 2) := by decide +kernel
theorem dX8_season_208 : decode cX8_season 208 = .ok (.iinc 8 1, 3) := by decide +kernel
theorem dX8_season_211 : decode cX8_season 211 = .ok (.goto (-143), 3) := by decide +kernel
theorem dX8_season_214 : decode cX8_season 214 = .ok (.iload_n 3, 1) := by decide +kernel
theorem dX8_season_215 : decode cX8_season 215 = .ok (.ifCond .ne 8, 3) := by decide +kernel
theorem dX8_season_218 : decode cX8_season 218 = .ok (.iload 4, 2) := by decide +kernel
theorem dX8_season_220 : decode cX8_season 220 = .ok (.goto 15, 3) := by decide +kernel
theorem dX8_season_223 : decode cX8_season 223 = .ok (.iload_n 3, 1) := by decide +kernel
theorem dX8_season_224 : decode cX8_season 224 = .ok (.iconst 1, 1) := by decide +kernel
theorem dX8_season_225 : decode cX8_season 225 = .ok (.if_icmp .ne 8, 3) := by decide +kernel
theorem dX8_season_228 : decode cX8_season 228 = .ok (.iload 5, 2) := by decide +kernel
theorem dX8_season_230 : decode cX8_season 230 = .ok (.goto 5, 3) := by decide +kernel
theorem dX8_season_233 : decode cX8_season 233 = .ok (.iload 6, 2) := by decide +kernel
theorem dX8_season_235 : decode cX8_season 235 = .ok (.ireturn, 1) := by decide +kernel
theorem dX8_be_0 : decode cX8_be 0 = .ok (.iconst 0, 1) := by decide +kernel
theorem dX8_be_1 : decode cX8_be 1 = .ok (.istore_n 2, 1) := by decide +kernel
theorem dX8_be_2 : decode cX8_be 2 = .ok (.iload_n 2, 1) := by decide +kernel
theorem dX8_be_3 : decode cX8_be 3 = .ok (.aload_n 0, 1) := by decide +kernel
theorem dX8_be_4 : decode cX8_be 4 = .ok (.arraylength, 1) := by decide +kernel
theorem dX8_be_5 : decode cX8_be 5 = .ok (.if_icmp .ge 15, 3) := by decide +kernel
theorem dX8_be_8 : decode cX8_be 8 = .ok (.aload_n 0, 1) := by decide +kernel
theorem dX8_be_9 : decode cX8_be 9 = .ok (.iload_n 2, 1) := by decide +kernel
theorem dX8_be_10 : decode cX8_be 10 = .ok (.aload_n 1, 1) := by decide +kernel
theorem dX8_be_11 : decode cX8_be 11 = .ok (.iload_n 2, 1) := by decide +kernel
theorem dX8_be_12 : decode cX8_be 12 = .ok (.iaload, 1) := by decide +kernel
theorem dX8_be_13 : decode cX8_be 13 = .ok (.iastore, 1) := by decide +kernel
theorem dX8_be_14 : decode cX8_be 14 = .ok (.iinc 2 1, 3) := by decide +kernel
theorem dX8_be_17 : decode cX8_be 17 = .ok (.goto (-15), 3) := by decide +kernel
theorem dX8_be_20 : decode cX8_be 20 = .ok (.return_, 1) := by decide +kernel
theorem dX8_image_0 : decode cX8_image 0 = .ok (.aload_n 0, 1) := by decide +kernel
theorem dX8_image_1 : decode cX8_image 1 = .ok (.iconst 0, 1) := by decide +kernel
theorem dX8_image_2 : decode cX8_image 2 = .ok (.putfield 150, 3) := by decide +kernel
theorem dX8_image_5 : decode cX8_image 5 = .ok (.aload_n 0, 1) := by decide +kernel
theorem dX8_image_6 : decode cX8_image 6 = .ok (.iconst 1, 1) := by decide +kernel
theorem dX8_image_7 : decode cX8_image 7 = .ok (.putfield 329, 3) := by decide +kernel
theorem dX8_image_10 : decode cX8_image 10 = .ok (.aload_n 0, 1) := by decide +kernel
theorem dX8_image_11 : decode cX8_image 11 = .ok (.aload_n 0, 1) := by decide +kernel
theorem dX8_image_12 : decode cX8_image 12 = .ok (.getfield 323, 3) := by decide +kernel
theorem dX8_image_15 : decode cX8_image 15 = .ok (.putfield 473, 3) := by decide +kernel
theorem dX8_image_18 : decode cX8_image 18 = .ok (.aload_n 0, 1) := by decide +kernel
theorem dX8_image_19 : decode cX8_image 19 = .ok (.aload_n 0, 1) := by decide +kernel
theorem dX8_image_20 : decode cX8_image 20 = .ok (.getfield 326, 3) := by decide +kernel
theorem dX8_image_23 : decode cX8_image 23 = .ok (.putfield 476, 3) := by decide +kernel
theorem dX8_image_26 : decode cX8_image 26 = .ok (.aload_n 0, 1) := by decide +kernel
theorem dX8_image_27 : decode cX8_image 27 = .ok (.aload_n 0, 1) := by decide +kernel
theorem dX8_image_28 : decode cX8_image 28 = .ok (.getfield 132, 3) := by decide +kernel
theorem dX8_image_31 : decode cX8_image 31 = .ok (.iconst 0, 1) := by decide +kernel
theorem dX8_image_32 : decode cX8_image 32 = .ok (.invokevirtual 429, 3) := by decide +kernel
theorem dX8_image_35 : decode cX8_image 35 = .ok (.aload_n 0, 1) := by decide +kernel
theorem dX8_image_36 : decode cX8_image 36 = .ok (.getfield 135, 3) := by decide +kernel
theorem dX8_image_39 : decode cX8_image 39 = .ok (.aload_n 0, 1) := by decide +kernel
theorem dX8_image_40 : decode cX8_image 40 = .ok (.getfield 82, 3) := by decide +kernel
theorem dX8_image_43 : decode cX8_image 43 = .ok (.invokestatic 479, 3) := by decide +kernel
theorem dX8_image_46 : decode cX8_image 46 = .ok (.aload_n 0, 1) := by decide +kernel
theorem dX8_image_47 : decode cX8_image 47 = .ok (.getfield 138, 3) := by decide +kernel
theorem dX8_image_50 : decode cX8_image 50 = .ok (.aload_n 0, 1) := by decide +kernel
theorem dX8_image_51 : decode cX8_image 51 = .ok (.getfield 123, 3) := by decide +kernel
theorem dX8_image_54 : decode cX8_image 54 = .ok (.invokestatic 479, 3) := by decide +kernel
theorem dX8_image_57 : decode cX8_image 57 = .ok (.aload_n 0, 1) := by decide +kernel
theorem dX8_image_58 : decode cX8_image 58 = .ok (.getfield 141, 3) := by decide +kernel
theorem dX8_image_61 : decode cX8_image 61 = .ok (.aload_n 0, 1) := by decide +kernel
theorem dX8_image_62 : decode cX8_image 62 = .ok (.getfield 126, 3) := by decide +kernel
theorem dX8_image_65 : decode cX8_image 65 = .ok (.invokestatic 479, 3) := by decide +kernel
theorem dX8_image_68 : decode cX8_image 68 = .ok (.aload_n 0, 1) := by decide +kernel
theorem dX8_image_69 : decode cX8_image 69 = .ok (.getfield 144, 3) := by decide +kernel
theorem dX8_image_72 : decode cX8_image 72 = .ok (.aload_n 0, 1) := by decide +kernel
theorem dX8_image_73 : decode cX8_image 73 = .ok (.getfield 129, 3) := by decide +kernel
theorem dX8_image_76 : decode cX8_image 76 = .ok (.invokestatic 479, 3) := by decide +kernel
theorem dX8_image_79 : decode cX8_image 79 = .ok (.aload_n 0, 1) := by decide +kernel
theorem dX8_image_80 : decode cX8_image 80 = .ok (.getfield 147, 3) := by decide +kernel
theorem dX8_image_83 : decode cX8_image 83 = .ok (.aload_n 0, 1) := by decide +kernel
theorem dX8_image_84 : decode cX8_image 84 = .ok (.getfield 60, 3) := by decide +kernel
theorem dX8_image_87 : decode cX8_image 87 = .ok (.invokestatic 479, 3) := by decide +kernel
theorem dX8_image_90 : decode cX8_image 90 = .ok (.return_, 1) := by decide +kernel
theorem dX8_restore_0 : decode cX8_restore 0 = .ok (.aload_n 0, 1) := by decide +kernel
theorem dX8_restore_1 : decode cX8_restore 1 = .ok (.iconst 0, 1) := by decide +kernel
theorem dX8_restore_2 : decode cX8_restore 2 = .ok (.putfield 150, 3) := by decide +kernel
theorem dX8_restore_5 : decode cX8_restore 5 = .ok (.aload_n 0, 1) := by decide +kernel
theorem dX8_restore_6 : decode cX8_restore 6 = .ok (.getfield 329, 3) := by decide +kernel
theorem dX8_restore_9 : decode cX8_restore 9 = .ok (.ifCond .ne 5, 3) := by decide +kernel
theorem dX8_restore_12 : decode cX8_restore 12 = .ok (.iconst 0, 1) := by decide +kernel
theorem dX8_restore_13 : decode cX8_restore 13 = .ok (.ireturn, 1) := by decide +kernel
theorem dX8_restore_14 : decode cX8_restore 14 = .ok (.aload_n 0, 1) := by decide +kernel
theorem dX8_restore_15 : decode cX8_restore 15 = .ok (.aload_n 0, 1) := by decide +kernel
theorem dX8_restore_16 : decode cX8_restore 16 = .ok (.getfield 473, 3) := by decide +kernel
theorem dX8_restore_19 : decode cX8_restore 19 = .ok (.putfield 323, 3) := by decide +kernel
theorem dX8_restore_22 : decode cX8_restore 22 = .ok (.aload_n 0, 1) := by decide +kernel
theorem dX8_restore_23 : decode cX8_restore 23 = .ok (.aload_n 0, 1) := by decide +kernel
theorem dX8_restore_24 : decode cX8_restore 24 = .ok (.getfield 476, 3) := by decide +kernel
theorem dX8_restore_27 : decode cX8_restore 27 = .ok (.putfield 326, 3) := by decide +kernel
theorem dX8_restore_30 : decode cX8_restore 30 = .ok (.aload_n 0, 1) := by decide +kernel
theorem dX8_restore_31 : decode cX8_restore 31 = .ok (.aload_n 0, 1) := by decide +kernel
theorem dX8_restore_32 : decode cX8_restore 32 = .ok (.getfield 132, 3) := by decide +kernel
theorem dX8_restore_35 : decode cX8_restore 35 = .ok (.iconst 0, 1) := by decide +kernel
theorem dX8_restore_36 : decode cX8_restore 36 = .ok (.invokevirtual 449, 3) := by decide +kernel
theorem dX8_restore_39 : decode cX8_restore 39 = .ok (.aload_n 0, 1) := by decide +kernel
theorem dX8_restore_40 : decode cX8_restore 40 = .ok (.getfield 82, 3) := by decide +kernel
theorem dX8_restore_43 : decode cX8_restore 43 = .ok (.aload_n 0, 1) := by decide +kernel
theorem dX8_restore_44 : decode cX8_restore 44 = .ok (.getfield 135, 3) := by decide +kernel
theorem dX8_restore_47 : decode cX8_restore 47 = .ok (.invokestatic 479, 3) := by decide +kernel
theorem dX8_restore_50 : decode cX8_restore 50 = .ok (.aload_n 0, 1) := by decide +kernel
theorem dX8_restore_51 : decode cX8_restore 51 = .ok (.getfield 123, 3) := by decide +kernel
theorem dX8_restore_54 : decode cX8_restore 54 = .ok (.aload_n 0, 1) := by decide +kernel
theorem dX8_restore_55 : decode cX8_restore 55 = .ok (.getfield 138, 3) := by decide +kernel
theorem dX8_restore_58 : decode cX8_restore 58 = .ok (.invokestatic 479, 3) := by decide +kernel
theorem dX8_restore_61 : decode cX8_restore 61 = .ok (.aload_n 0, 1) := by decide +kernel
theorem dX8_restore_62 : decode cX8_restore 62 = .ok (.getfield 126, 3) := by decide +kernel
theorem dX8_restore_65 : decode cX8_restore 65 = .ok (.aload_n 0, 1) := by decide +kernel
theorem dX8_restore_66 : decode cX8_restore 66 = .ok (.getfield 141, 3) := by decide +kernel
theorem dX8_restore_69 : decode cX8_restore 69 = .ok (.invokestatic 479, 3) := by decide +kernel
theorem dX8_restore_72 : decode cX8_restore 72 = .ok (.aload_n 0, 1) := by decide +kernel
theorem dX8_restore_73 : decode cX8_restore 73 = .ok (.getfield 129, 3) := by decide +kernel
theorem dX8_restore_76 : decode cX8_restore 76 = .ok (.aload_n 0, 1) := by decide +kernel
theorem dX8_restore_77 : decode cX8_restore 77 = .ok (.getfield 144, 3) := by decide +kernel
theorem dX8_restore_80 : decode cX8_restore 80 = .ok (.invokestatic 479, 3) := by decide +kernel
theorem dX8_restore_83 : decode cX8_restore 83 = .ok (.aload_n 0, 1) := by decide +kernel
theorem dX8_restore_84 : decode cX8_restore 84 = .ok (.getfield 60, 3) := by decide +kernel
theorem dX8_restore_87 : decode cX8_restore 87 = .ok (.aload_n 0, 1) := by decide +kernel
theorem dX8_restore_88 : decode cX8_restore 88 = .ok (.getfield 147, 3) := by decide +kernel
theorem dX8_restore_91 : decode cX8_restore 91 = .ok (.invokestatic 479, 3) := by decide +kernel
theorem dX8_restore_94 : decode cX8_restore 94 = .ok (.iconst 1, 1) := by decide +kernel
theorem dX8_restore_95 : decode cX8_restore 95 = .ok (.ireturn, 1) := by decide +kernel
def f_X8_season_185 (k68 : Mem → Int32 → Int32 → Int32 → Int32 → Int32 → Int32 → Int32 → Option (Int32 × Mem))  (I : Mem) (v2 : Int32) (v3 : Int32) (v4 : Int32) (v6 : Int32) (v7 : Int32) (v8 : Int32) (v9 : Int32) (s0 : Int32) : Option (Int32 × Mem) :=
  if v9 = (I 50 0 0 5) then (bnd (v6 + (1 : Int32)) fun x2 =>
  k68 I v2 v3 v4 s0 x2 v7 (v8 + (1 : Int32))) else (bnd (v6 + (0 : Int32)) fun x1 =>
  k68 I v2 v3 v4 s0 x1 v7 (v8 + (1 : Int32)))
theorem b_X8_season_185 (X : CX) (Q : State → Prop) {I : Mem} {P : PMem} {O : Nat → Int64} {D : Bool} {n : Nat} {k68 : Mem → Int32 → Int32 → Int32 → Int32 → Int32 → Int32 → Int32 → Option (Int32 × Mem)} {v2 : Int32} {v3 : Int32} {v4 : Int32} {v6 : Int32} {v7 : Int32} {v8 : Int32} {v9 : Int32} {s0 : Int32} {r : (Int32 × Mem)}  (H68 : ∀ (I : Mem) (v2 : Int32) (v3 : Int32) (v4 : Int32) (v5 : Int32) (v6 : Int32) (v7 : Int32) (v8 : Int32), k68 I v2 v3 v4 v5 v6 v7 v8 = some r → Here X cX8_season RX8 12 (some .int) 9 n 68 [some (.inr (.inr (8, 0, 0))), none, some (.inl v2), some (.inl v3), some (.inl v4), some (.inl v5), some (.inl v6), some (.inl v7), some (.inl v8), none, none, none] [] I P O D n Q) (h : f_X8_season_185 k68 I v2 v3 v4 v6 v7 v8 v9 s0 = some r) (E : EndR X cX8_season RX8 12 (some .int) 9 n (some (.inl r.1)) r.2 P O D Q) : Here X cX8_season RX8 12 (some .int) 9 n 185 [some (.inr (.inr (8, 0, 0))), none, some (.inl v2), some (.inl v3), some (.inl v4), none, some (.inl v6), some (.inl v7), some (.inl v8), some (.inl v9), none, none] [.inl s0] I P O D n Q := by
  unfold f_X8_season_185 at h
  refine h_istore dX8_season_185 (by decide) rfl ?_
  refine h_iload dX8_season_187 rfl ?_
  refine h_iload dX8_season_189 rfl ?_
  refine h_aload_n dX8_season_191 rfl ?_
  refine g_X8_34  dX8_season_192 ?_
  refine h_iconst (5 : Int32) dX8_season_195 k_iconst_5 ?_
  refine al_50  5 cl_5 dX8_season_196 rfl ?_
  refine h_icmp_ne (tgt := 204) dX8_season_197 (by decide) (fun q1 => ?_) (fun q1 => ?_)
  · rw [if_neg q1] at h
    refine h_iconst (0 : Int32) dX8_season_204 k_iconst_0 ?_
    refine h_iadd dX8_season_205 ?_
    obtain ⟨x1, e1, h⟩ := bnd_some h
    refine h_nmv e1 ?_
    refine h_istore dX8_season_206 (by decide) rfl ?_
    refine h_iinc (1 : Int32) dX8_season_208 rfl k_iinc_1 (by decide) rfl ?_
    refine h_goto (tgt := 68) dX8_season_211 (by decide) ?_
    exact h_mask [true, false, true, true, true, true, true, true, true, false, false, false] (H68 _ _ _ _ _ _ _ _ h)
  · rw [if_pos q1] at h
    refine h_iconst (1 : Int32) dX8_season_200 k_iconst_1 ?_
    refine h_goto (tgt := 205) dX8_season_201 (by decide) ?_
    refine h_iadd dX8_season_205 ?_
    obtain ⟨x2, e2, h⟩ := bnd_some h
    refine h_nmv e2 ?_
    refine h_istore dX8_season_206 (by decide) rfl ?_
    refine h_iinc (1 : Int32) dX8_season_208 rfl k_iinc_1 (by decide) rfl ?_
    refine h_goto (tgt := 68) dX8_season_211 (by decide) ?_
    exact h_mask [true, false, true, true, true, true, true, true, true, false, false, false] (H68 _ _ _ _ _ _ _ _ h)
def f_X8_season_149 (k68 : Mem → Int32 → Int32 → Int32 → Int32 → Int32 → Int32 → Int32 → Option (Int32 × Mem))  (I : Mem) (v2 : Int32) (v3 : Int32) (v4 : Int32) (v5 : Int32) (v6 : Int32) (v7 : Int32) (v8 : Int32) : Option (Int32 × Mem) :=
  (f_X8_tell I).bind fun y1 =>
  bnd (upd4 y1.2 8 0 0 32 v7) fun I1' =>
  bnd (v4 + y1.1) fun x1 =>
  if v8 = 0 then (f_X8_season_185 k68 I1' v2 v3 x1 v6 v7 v8 y1.1 y1.1) else (f_X8_season_185 k68 I1' v2 v3 x1 v6 v7 v8 y1.1 (jmin v5 y1.1))
theorem b_X8_season_149 (X : CX) (Q : State → Prop) {I : Mem} {P : PMem} {O : Nat → Int64} {D : Bool} {n : Nat} {k68 : Mem → Int32 → Int32 → Int32 → Int32 → Int32 → Int32 → Int32 → Option (Int32 × Mem)} {v2 : Int32} {v3 : Int32} {v4 : Int32} {v5 : Int32} {v6 : Int32} {v7 : Int32} {v8 : Int32} {r : (Int32 × Mem)}  (H68 : ∀ (I : Mem) (v2 : Int32) (v3 : Int32) (v4 : Int32) (v5 : Int32) (v6 : Int32) (v7 : Int32) (v8 : Int32), k68 I v2 v3 v4 v5 v6 v7 v8 = some r → Here X cX8_season RX8 12 (some .int) 9 n 68 [some (.inr (.inr (8, 0, 0))), none, some (.inl v2), some (.inl v3), some (.inl v4), some (.inl v5), some (.inl v6), some (.inl v7), some (.inl v8), none, none, none] [] I P O D n Q) (h : f_X8_season_149 k68 I v2 v3 v4 v5 v6 v7 v8 = some r) (E : EndR X cX8_season RX8 12 (some .int) 9 n (some (.inl r.1)) r.2 P O D Q) : Here X cX8_season RX8 12 (some .int) 9 n 149 [some (.inr (.inr (8, 0, 0))), none, some (.inl v2), some (.inl v3), some (.inl v4), some (.inl v5), some (.inl v6), some (.inl v7), some (.inl v8), none, none, none] [] I P O D n Q := by
  unfold f_X8_season_149 at h
  refine h_aload_n dX8_season_149 rfl ?_
  obtain ⟨y1, hh1, h⟩ := obd_some h
  refine h_cVi [] (m_X8_tell  hh1) cw_X8_407 dX8_season_150 rfl ok_8 (by decide) rfl (Or.inr rfl) rfl ?_
  refine h_istore dX8_season_153 (by decide) rfl ?_
  refine h_aload_n dX8_season_155 rfl ?_
  refine h_iload dX8_season_156 rfl ?_
  obtain ⟨I1', e1, h⟩ := bnd_some h
  refine p_X8_320  dX8_season_158 ?_
  refine h_nmI e1 ?_
  refine h_iload dX8_season_161 rfl ?_
  refine h_iload dX8_season_163 rfl ?_
  refine h_iadd dX8_season_165 ?_
  obtain ⟨x1, e2, h⟩ := bnd_some h
  refine h_nmv e2 ?_
  refine h_istore dX8_season_166 (by decide) rfl ?_
  refine h_iload dX8_season_168 rfl ?_
  refine h_if_ne (tgt := 178) dX8_season_170 (by decide) (fun q1 => ?_) (fun q1 => ?_)
  · rw [if_neg q1] at h
    refine h_iload dX8_season_178 rfl ?_
    refine h_iload dX8_season_180 rfl ?_
    refine h_min dX8_season_182 ml_X8_187 wm1_min wm2 wm3_min (by decide) rfl ?_
    exact h_mask [true, false, true, true, true, false, true, true, true, true, false, false] (b_X8_season_185 X Q H68  h E)
  · rw [if_pos q1] at h
    refine h_iload dX8_season_173 rfl ?_
    refine h_goto (tgt := 185) dX8_season_175 (by decide) ?_
    exact h_mask [true, false, true, true, true, false, true, true, true, true, false, false] (b_X8_season_185 X Q H68  h E)
def f_X8_season_77 (k68 : Mem → Int32 → Int32 → Int32 → Int32 → Int32 → Int32 → Int32 → Option (Int32 × Mem))  : Nat → Mem → Int32 → Int32 → Int32 → Int32 → Int32 → Int32 → Int32 → Int32 → Option (Int32 × Mem)
  | 0, _, _, _, _, _, _, _, _, _ => none
  | fu + 1, I, v2, v3, v4, v5, v6, v7, v8, v9 =>
    if (2 : Int32) ≤ v9 then (f_X8_season_149 k68 I v2 v3 v4 v5 v6 v7 v8) else (if (I 50 0 0 0) ≤ 0 then (f_X8_season_149 k68 I v2 v3 v4 v5 v6 v7 v8) else ((f_X8_drawOf I (I 50 0 0 0)).bind fun y1 =>
    (f_X8_drawOf y1.2 (30 : Int32)).bind fun y2 =>
    (f_X8_drawOf y2.2 (6 : Int32)).bind fun y3 =>
    (f_X8_putRow 64 0 0 y3.2 (y2.2 8 0 0 32) y1.1 y2.1 y3.1).bind fun y4 =>
    bnd (upd4 y4 8 0 0 32 ((y4 8 0 0 32) + (1 : Int32))) fun I1' =>
    (f_X8_season_77 k68 fu) I1' v2 v3 v4 v5 v6 v7 v8 (v9 + (1 : Int32))))
theorem b_X8_season_77 (X : CX) (Q : State → Prop) {P : PMem} {O : Nat → Int64} {D : Bool} {n : Nat} {k68 : Mem → Int32 → Int32 → Int32 → Int32 → Int32 → Int32 → Int32 → Option (Int32 × Mem)} {r : (Int32 × Mem)}  (H68 : ∀ (I : Mem) (v2 : Int32) (v3 : Int32) (v4 : Int32) (v5 : Int32) (v6 : Int32) (v7 : Int32) (v8 : Int32), k68 I v2 v3 v4 v5 v6 v7 v8 = some r → Here X cX8_season RX8 12 (some .int) 9 n 68 [some (.inr (.inr (8, 0, 0))), none, some (.inl v2), some (.inl v3), some (.inl v4), some (.inl v5), some (.inl v6), some (.inl v7), some (.inl v8), none, none, none] [] I P O D n Q) : ∀ (fu : Nat) {I : Mem} {v2 : Int32} {v3 : Int32} {v4 : Int32} {v5 : Int32} {v6 : Int32} {v7 : Int32} {v8 : Int32} {v9 : Int32}, f_X8_season_77 k68 fu I v2 v3 v4 v5 v6 v7 v8 v9 = some r → EndR X cX8_season RX8 12 (some .int) 9 n (some (.inl r.1)) r.2 P O D Q → Here X cX8_season RX8 12 (some .int) 9 n 77 [some (.inr (.inr (8, 0, 0))), none, some (.inl v2), some (.inl v3), some (.inl v4), some (.inl v5), some (.inl v6), some (.inl v7), some (.inl v8), some (.inl v9), none, none] [] I P O D n Q := by
  intro fu
  induction fu with
  | zero => intro I v2 v3 v4 v5 v6 v7 v8 v9 h E; cases h
  | succ fu ih =>
  intro I v2 v3 v4 v5 v6 v7 v8 v9 h E
  have H77 : ∀ (I : Mem) (v2 : Int32) (v3 : Int32) (v4 : Int32) (v5 : Int32) (v6 : Int32) (v7 : Int32) (v8 : Int32) (v9 : Int32), f_X8_season_77 k68 fu I v2 v3 v4 v5 v6 v7 v8 v9 = some r → Here X cX8_season RX8 12 (some .int) 9 n 77 [some (.inr (.inr (8, 0, 0))), none, some (.inl v2), some (.inl v3), some (.inl v4), some (.inl v5), some (.inl v6), some (.inl v7), some (.inl v8), some (.inl v9), none, none] [] I P O D n Q := fun _ _ _ _ _ _ _ _ _ b => ih b E
  simp only [f_X8_season_77] at h
  refine h_iload dX8_season_77 rfl ?_
  refine h_iconst (2 : Int32) dX8_season_79 k_iconst_2 ?_
  refine h_icmp_ge (tgt := 149) dX8_season_80 (by decide) (fun q1 => ?_) (fun q1 => ?_)
  · rw [if_pos q1] at h
    exact h_mask [true, false, true, true, true, true, true, true, true, false, false, false] (b_X8_season_149 X Q H68  h E)
  · rw [if_neg q1] at h
    refine h_aload_n dX8_season_83 rfl ?_
    refine g_X8_34  dX8_season_84 ?_
    refine h_iconst (0 : Int32) dX8_season_87 k_iconst_0 ?_
    refine al_50  0 cl_0 dX8_season_88 rfl ?_
    refine h_if_le (tgt := 149) dX8_season_89 (by decide) (fun q2 => ?_) (fun q2 => ?_)
    · rw [if_pos q2] at h
      exact h_mask [true, false, true, true, true, true, true, true, true, false, false, false] (b_X8_season_149 X Q H68  h E)
    · rw [if_neg q2] at h
      refine h_aload_n dX8_season_92 rfl ?_
      refine h_aload_n dX8_season_93 rfl ?_
      refine g_X8_34  dX8_season_94 ?_
      refine h_iconst (0 : Int32) dX8_season_97 k_iconst_0 ?_
      refine al_50  0 cl_0 dX8_season_98 rfl ?_
      obtain ⟨y1, hh1, h⟩ := obd_some h
      refine h_cVi [.inl (I 50 0 0 0)] (m_X8_drawOf  hh1) cw_X8_470 dX8_season_99 rfl ok_8 (by decide) rfl (Or.inr rfl) rfl ?_
      refine h_istore dX8_season_102 (by decide) rfl ?_
      refine h_aload_n dX8_season_104 rfl ?_
      refine h_bipush (30 : Int32) dX8_season_105 k_bipush_30 ?_
      obtain ⟨y2, hh2, h⟩ := obd_some h
      refine h_cVi [.inl (30 : Int32)] (m_X8_drawOf  hh2) cw_X8_470 dX8_season_107 rfl ok_8 (by decide) rfl (Or.inr rfl) rfl ?_
      refine h_istore dX8_season_110 (by decide) rfl ?_
      refine h_aload_n dX8_season_112 rfl ?_
      refine g_X8_79  dX8_season_113 ?_
      refine h_aload_n dX8_season_116 rfl ?_
      refine g_X8_320  dX8_season_117 ?_
      refine h_iload dX8_season_120 rfl ?_
      refine h_iload dX8_season_122 rfl ?_
      refine h_aload_n dX8_season_124 rfl ?_
      refine h_bipush (6 : Int32) dX8_season_125 k_bipush_6 ?_
      obtain ⟨y3, hh3, h⟩ := obd_some h
      refine h_cVi [.inl (6 : Int32)] (m_X8_drawOf  hh3) cw_X8_470 dX8_season_127 rfl ok_8 (by decide) rfl (Or.inr rfl) rfl ?_
      obtain ⟨y4, hh4, h⟩ := obd_some h
      refine h_cSv [.inr (.inr (64, 0, 0)), .inl (y2.2 8 0 0 32), .inl y1.1, .inl y2.1, .inl y3.1] (m_X8_putRow rfl hh4) cs_X8_443 dX8_season_130 rfl (by decide) rfl (Or.inr rfl) rfl ?_
      refine h_aload_n dX8_season_133 rfl ?_
      refine h_dup dX8_season_134 (fun _ => rfl) ?_
      refine g_X8_320  dX8_season_135 ?_
      refine h_iconst (1 : Int32) dX8_season_138 k_iconst_1 ?_
      refine h_iadd dX8_season_139 ?_
      obtain ⟨I1', e1, h⟩ := bnd_some h
      refine p_X8_320  dX8_season_140 ?_
      refine h_nmI e1 ?_
      refine h_iinc (1 : Int32) dX8_season_143 rfl k_iinc_1 (by decide) rfl ?_
      refine h_goto (tgt := 77) dX8_season_146 (by decide) ?_
      exact h_mask [true, false, true, true, true, true, true, true, true, true, false, false] (H77 _ _ _ _ _ _ _ _ _ h)
def f_X8_season_68   : Nat → Mem → Int32 → Int32 → Int32 → Int32 → Int32 → Int32 → Int32 → Option (Int32 × Mem)
  | 0, _, _, _, _, _, _, _, _ => none
  | fu + 1, I, v2, v3, v4, v5, v6, v7, v8 =>
    if v2 ≤ v8 then (if v3 = 0 then (some (v4, I)) else (if v3 = (1 : Int32) then (some (v5, I)) else (some (v6, I)))) else (f_X8_season_77 (f_X8_season_68 fu) FU I v2 v3 v4 v5 v6 v7 v8 (0 : Int32))
theorem b_X8_season_68 (X : CX) (Q : State → Prop) {P : PMem} {O : Nat → Int64} {D : Bool} {n : Nat} {r : (Int32 × Mem)}  : ∀ (fu : Nat) {I : Mem} {v2 : Int32} {v3 : Int32} {v4 : Int32} {v5 : Int32} {v6 : Int32} {v7 : Int32} {v8 : Int32}, f_X8_season_68 fu I v2 v3 v4 v5 v6 v7 v8 = some r → EndR X cX8_season RX8 12 (some .int) 9 n (some (.inl r.1)) r.2 P O D Q → Here X cX8_season RX8 12 (some .int) 9 n 68 [some (.inr (.inr (8, 0, 0))), none, some (.inl v2), some (.inl v3), some (.inl v4), some (.inl v5), some (.inl v6), some (.inl v7), some (.inl v8), none, none, none] [] I P O D n Q := by
  intro fu
  induction fu with
  | zero => intro I v2 v3 v4 v5 v6 v7 v8 h E; cases h
  | succ fu ih =>
  intro I v2 v3 v4 v5 v6 v7 v8 h E
  have H68 : ∀ (I : Mem) (v2 : Int32) (v3 : Int32) (v4 : Int32) (v5 : Int32) (v6 : Int32) (v7 : Int32) (v8 : Int32), f_X8_season_68 fu I v2 v3 v4 v5 v6 v7 v8 = some r → Here X cX8_season RX8 12 (some .int) 9 n 68 [some (.inr (.inr (8, 0, 0))), none, some (.inl v2), some (.inl v3), some (.inl v4), some (.inl v5), some (.inl v6), some (.inl v7), some (.inl v8), none, none, none] [] I P O D n Q := fun _ _ _ _ _ _ _ _ b => ih b E
  simp only [f_X8_season_68] at h
  refine h_iload dX8_season_68 rfl ?_
  refine h_iload_n dX8_season_70 rfl ?_
  refine h_icmp_ge (tgt := 214) dX8_season_71 (by decide) (fun q1 => ?_) (fun q1 => ?_)
  · rw [if_pos q1] at h
    refine h_iload_n dX8_season_214 rfl ?_
    refine h_if_ne (tgt := 223) dX8_season_215 (by decide) (fun q2 => ?_) (fun q2 => ?_)
    · rw [if_neg q2] at h
      refine h_iload_n dX8_season_223 rfl ?_
      refine h_iconst (1 : Int32) dX8_season_224 k_iconst_1 ?_
      refine h_icmp_ne (tgt := 233) dX8_season_225 (by decide) (fun q3 => ?_) (fun q3 => ?_)
      · rw [if_neg q3] at h
        refine h_iload dX8_season_233 rfl ?_
        cases h
        exact h_iret dX8_season_235 rfl E
      · rw [if_pos q3] at h
        refine h_iload dX8_season_228 rfl ?_
        refine h_goto (tgt := 235) dX8_season_230 (by decide) ?_
        cases h
        exact h_iret dX8_season_235 rfl E
    · rw [if_pos q2] at h
      refine h_iload dX8_season_218 rfl ?_
      refine h_goto (tgt := 235) dX8_season_220 (by decide) ?_
      cases h
      exact h_iret dX8_season_235 rfl E
  · rw [if_neg q1] at h
    refine h_iconst (0 : Int32) dX8_season_74 k_iconst_0 ?_
    refine h_istore dX8_season_75 (by decide) rfl ?_
    exact (b_X8_season_77 X Q H68 FU  h E)
def f_X8_season   (I : Mem) (v1 : Int32) (v2 : Int32) (v3 : Int32) : Option (Int32 × Mem) :=
  bnd (upd4 I 8 0 0 2 (0 : Int32)) fun I1' =>
  (f_X8_isIn I1' v3.toInt64 (0 : Int64) (2 : Int64)).bind fun y1 =>
  if y1 = 0 then ((f_X8_fail I1' (1 : Int32)).bind fun y5 =>
  some (y5.1, y5.2)) else ((f_X8_isIn I1' v2.toInt64 (0 : Int64) (40 : Int64)).bind fun y2 =>
  if y2 = 0 then ((f_X8_fail I1' (2 : Int32)).bind fun y4 =>
  some (y4.1, y4.2)) else ((f_X8_set I1').bind fun y3 =>
  bnd (upd4 y3 8 0 0 53 v1) fun I2' =>
  bnd (I2' 8 0 0 32) fun x1 =>
  f_X8_season_68 FU I2' v2 v3 (0 : Int32) (0 : Int32) (0 : Int32) x1 (0 : Int32)))
theorem b_X8_season (X : CX) (Q : State → Prop) {I : Mem} {P : PMem} {O : Nat → Int64} {D : Bool} {n : Nat} {v1 : Int32} {v2 : Int32} {v3 : Int32} {r : (Int32 × Mem)}  (h : f_X8_season I v1 v2 v3 = some r) (E : EndR X cX8_season RX8 12 (some .int) 9 n (some (.inl r.1)) r.2 P O D Q) : Here X cX8_season RX8 12 (some .int) 9 n 0 [some (.inr (.inr (8, 0, 0))), some (.inl v1), some (.inl v2), some (.inl v3), none, none, none, none, none, none, none, none] [] I P O D n Q := by
  unfold f_X8_season at h
  refine h_aload_n dX8_season_0 rfl ?_
  refine h_iconst (0 : Int32) dX8_season_1 k_iconst_0 ?_
  obtain ⟨I1', e1, h⟩ := bnd_some h
  refine p_X8_150  dX8_season_2 ?_
  refine h_nmI e1 ?_
  refine h_iload_n dX8_season_5 rfl ?_
  refine h_i2l dX8_season_6 ?_
  refine h_lconst 0 dX8_season_7 rfl ?_
  refine h_ldc2 2 dX8_season_8 kl_X8_455 ?_
  obtain ⟨y1, hh1, h⟩ := obd_some h
  refine h_cSi [.inr (.inl v3.toInt64), .inr (.inl (0 : Int64)), .inr (.inl (2 : Int64))] (m_X8_isIn  hh1) cs_X8_153 dX8_season_11 rfl (by decide) rfl (Or.inr rfl) rfl ?_
  refine h_if_ne (tgt := 23) dX8_season_14 (by decide) (fun q1 => ?_) (fun q1 => ?_)
  · rw [if_neg q1] at h
    refine h_iload_n dX8_season_23 rfl ?_
    refine h_i2l dX8_season_24 ?_
    refine h_lconst 0 dX8_season_25 rfl ?_
    refine h_ldc2 40 dX8_season_26 kl_X8_468 ?_
    obtain ⟨y2, hh2, h⟩ := obd_some h
    refine h_cSi [.inr (.inl v2.toInt64), .inr (.inl (0 : Int64)), .inr (.inl (40 : Int64))] (m_X8_isIn  hh2) cs_X8_153 dX8_season_29 rfl (by decide) rfl (Or.inr rfl) rfl ?_
    refine h_if_ne (tgt := 41) dX8_season_32 (by decide) (fun q2 => ?_) (fun q2 => ?_)
    · rw [if_neg q2] at h
      refine h_aload_n dX8_season_41 rfl ?_
      obtain ⟨y3, hh3, h⟩ := obd_some h
      refine h_cVv [] (m_X8_set  hh3) cw_X8_404 dX8_season_42 rfl ok_8 (by decide) rfl (Or.inr rfl) rfl ?_
      refine h_aload_n dX8_season_45 rfl ?_
      refine h_iload_n dX8_season_46 rfl ?_
      obtain ⟨I2', e2, h⟩ := bnd_some h
      refine p_X8_464  dX8_season_47 ?_
      refine h_nmI e2 ?_
      refine h_iconst (0 : Int32) dX8_season_50 k_iconst_0 ?_
      refine h_istore dX8_season_51 (by decide) rfl ?_
      refine h_iconst (0 : Int32) dX8_season_53 k_iconst_0 ?_
      refine h_istore dX8_season_54 (by decide) rfl ?_
      refine h_iconst (0 : Int32) dX8_season_56 k_iconst_0 ?_
      refine h_istore dX8_season_57 (by decide) rfl ?_
      refine h_aload_n dX8_season_59 rfl ?_
      refine g_X8_320  dX8_season_60 ?_
      obtain ⟨x1, e3, h⟩ := bnd_some h
      refine h_nmv e3 ?_
      refine h_istore dX8_season_63 (by decide) rfl ?_
      refine h_iconst (0 : Int32) dX8_season_65 k_iconst_0 ?_
      refine h_istore dX8_season_66 (by decide) rfl ?_
      exact h_mask [true, false, true, true, true, true, true, true, true, false, false, false] (b_X8_season_68 X Q FU  h E)
    · rw [if_pos q2] at h
      refine h_aload_n dX8_season_35 rfl ?_
      refine h_iconst (2 : Int32) dX8_season_36 k_iconst_2 ?_
      obtain ⟨y4, hh4, h⟩ := obd_some h
      refine h_cVi [.inl (2 : Int32)] (m_X8_fail  hh4) cw_X8_298 dX8_season_37 rfl ok_8 (by decide) rfl (Or.inr rfl) rfl ?_
      cases h
      exact h_iret dX8_season_40 rfl E
  · rw [if_pos q1] at h
    refine h_aload_n dX8_season_17 rfl ?_
    refine h_iconst (1 : Int32) dX8_season_18 k_iconst_1 ?_
    obtain ⟨y5, hh5, h⟩ := obd_some h
    refine h_cVi [.inl (1 : Int32)] (m_X8_fail  hh5) cw_X8_298 dX8_season_19 rfl ok_8 (by decide) rfl (Or.inr rfl) rfl ?_
    cases h
    exact h_iret dX8_season_22 rfl E
theorem m_X8_season {I : Mem} {P : PMem} {O : Nat → Int64} {D : Bool} {n : Nat} {v1 : Int32} {v2 : Int32} {v3 : Int32} {r : (Int32 × Mem)}  (h : f_X8_season I v1 v2 v3 = some r) : MethR yX8_season cX8_season 12 (some .int) 9 [.inr (.inr (8, 0, 0)), .inl v1, .inl v2, .inl v3] I P O D n (some (.inl r.1)) r.2 P O D n := meth_R (Nat.le_refl _) (by decide) rfl (Nat.le_of_ble_eq_true rfl) rfl (fun X Q E => b_X8_season X Q  h E)
def f_X8_be_2  (c0 : Nat) (z0 : Nat) (r0 : Nat) (c1 : Nat) (z1 : Nat) (r1 : Nat) : Nat → Mem → Int32 → Option (Mem)
  | 0, _, _ => none
  | fu + 1, I, v2 =>
    if (Int32.ofNat (cL c0 z0)) ≤ v2 then (some I) else (gd (inb v2 (cL c1 z1)) <|
    gd (inb v2 (cL c0 z0)) <|
    bnd (upd4 I c0 z0 r0 v2.toNatClampNeg (I c1 z1 r1 v2.toNatClampNeg)) fun I1' =>
    (f_X8_be_2 c0 z0 r0 c1 z1 r1 fu) I1' (v2 + (1 : Int32)))
theorem b_X8_be_2 (X : CX) (Q : State → Prop) {P : PMem} {O : Nat → Int64} {D : Bool} {n : Nat} {c0 : Nat} {z0 : Nat} {r0 : Nat} {c1 : Nat} {z1 : Nat} {r1 : Nat} {r : (Mem)}  (hc0 : iaOK c0 z0 r0 = true) (hc1 : iaOK c1 z1 r1 = true) : ∀ (fu : Nat) {I : Mem} {v2 : Int32}, f_X8_be_2 c0 z0 r0 c1 z1 r1 fu I v2 = some r → EndR X cX8_be RX8 3 (none) 2 n none r P O D Q → Here X cX8_be RX8 3 (none) 2 n 2 [some (.inr (.inr (c0, z0, r0))), some (.inr (.inr (c1, z1, r1))), some (.inl v2)] [] I P O D n Q := by
  intro fu
  induction fu with
  | zero => intro I v2 h E; cases h
  | succ fu ih =>
  intro I v2 h E
  have H2 : ∀ (I : Mem) (v2 : Int32), f_X8_be_2 c0 z0 r0 c1 z1 r1 fu I v2 = some r → Here X cX8_be RX8 3 (none) 2 n 2 [some (.inr (.inr (c0, z0, r0))), some (.inr (.inr (c1, z1, r1))), some (.inl v2)] [] I P O D n Q := fun _ _ b => ih b E
  simp only [f_X8_be_2] at h
  refine h_iload_n dX8_be_2 rfl ?_
  refine h_aload_n dX8_be_3 rfl ?_
  refine an_v hc0 dX8_be_4 ?_
  refine h_icmp_ge (tgt := 20) dX8_be_5 (by decide) (fun q1 => ?_) (fun q1 => ?_)
  · rw [if_pos q1] at h
    cases h
    exact h_vret dX8_be_20 rfl E
  · rw [if_neg q1] at h
    refine h_aload_n dX8_be_8 rfl ?_
    refine h_iload_n dX8_be_9 rfl ?_
    refine h_aload_n dX8_be_10 rfl ?_
    refine h_iload_n dX8_be_11 rfl ?_
    obtain ⟨g1, h⟩ := gd_some h
    refine al_v hc1 v2.toNatClampNeg rfl dX8_be_12 g1 ?_
    obtain ⟨g2, h⟩ := gd_some h
    obtain ⟨I1', e1, h⟩ := bnd_some h
    refine as_v hc0 v2.toNatClampNeg rfl dX8_be_13 g2 ?_
    refine h_nmI e1 ?_
    refine h_iinc (1 : Int32) dX8_be_14 rfl k_iinc_1 (by decide) rfl ?_
    refine h_goto (tgt := 2) dX8_be_17 (by decide) ?_
    exact (H2 _ _ h)
def f_X8_be  (c0 : Nat) (z0 : Nat) (r0 : Nat) (c1 : Nat) (z1 : Nat) (r1 : Nat) (I : Mem) : Option (Mem) :=
  f_X8_be_2 c0 z0 r0 c1 z1 r1 FU I (0 : Int32)
theorem b_X8_be (X : CX) (Q : State → Prop) {I : Mem} {P : PMem} {O : Nat → Int64} {D : Bool} {n : Nat} {c0 : Nat} {z0 : Nat} {r0 : Nat} {c1 : Nat} {z1 : Nat} {r1 : Nat} {r : (Mem)}  (hc0 : iaOK c0 z0 r0 = true) (hc1 : iaOK c1 z1 r1 = true) (h : f_X8_be c0 z0 r0 c1 z1 r1 I = some r) (E : EndR X cX8_be RX8 3 (none) 2 n none r P O D Q) : Here X cX8_be RX8 3 (none) 2 n 0 [some (.inr (.inr (c0, z0, r0))), some (.inr (.inr (c1, z1, r1))), none] [] I P O D n Q := by
  unfold f_X8_be at h
  refine h_iconst (0 : Int32) dX8_be_0 k_iconst_0 ?_
  refine h_istore_n dX8_be_1 (by decide) rfl ?_
  exact (b_X8_be_2 X Q hc0 hc1 FU  h E)
theorem m_X8_be {I : Mem} {P : PMem} {O : Nat → Int64} {D : Bool} {n : Nat} {c0 : Nat} {z0 : Nat} {r0 : Nat} {c1 : Nat} {z1 : Nat} {r1 : Nat} {r : (Mem)} (hc0 : iaOK c0 z0 r0 = true) (hc1 : iaOK c1 z1 r1 = true) (h : f_X8_be c0 z0 r0 c1 z1 r1 I = some r) : MethR yX8_be cX8_be 3 (none) 2 [.inr (.inr (c0, z0, r0)), .inr (.inr (c1, z1, r1))] I P O D n none r P O D n := meth_R (Nat.le_refl _) (by decide) rfl (Nat.le_of_ble_eq_true rfl) rfl (fun X Q E => b_X8_be X Q hc0 hc1 h E)
def f_X8_image   (I : Mem) : Option (Mem) :=
  bnd (upd4 I 8 0 0 2 (0 : Int32)) fun I1' =>
  bnd (upd4 I1' 8 0 0 54 (1 : Int32)) fun I2' =>
  bnd (upd4 I2' 8 0 0 55 (I2' 8 0 0 33)) fun I3' =>
  bnd (upd4 I3' 8 0 0 56 (I3' 8 0 0 34)) fun I4' =>
  (f_X8_pack 80 0 0 I4' (0 : Int32)).bind fun y1 =>
  (f_X8_be 81 0 0 65 0 0 y1).bind fun y2 =>
  (f_X8_be 82 0 0 77 0 0 y2).bind fun y3 =>
  (f_X8_be 83 0 0 78 0 0 y3).bind fun y4 =>
  (f_X8_be 84 0 0 79 0 0 y4).bind fun y5 =>
  (f_X8_be 85 0 0 59 0 0 y5).bind fun y6 =>
  some y6
theorem b_X8_image (X : CX) (Q : State → Prop) {I : Mem} {P : PMem} {O : Nat → Int64} {D : Bool} {n : Nat} {r : (Mem)}  (h : f_X8_image I = some r) (E : EndR X cX8_image RX8 1 (none) 3 n none r P O D Q) : Here X cX8_image RX8 1 (none) 3 n 0 [some (.inr (.inr (8, 0, 0)))] [] I P O D n Q := by
  unfold f_X8_image at h
  refine h_aload_n dX8_image_0 rfl ?_
  refine h_iconst (0 : Int32) dX8_image_1 k_iconst_0 ?_
  obtain ⟨I1', e1, h⟩ := bnd_some h
  refine p_X8_150  dX8_image_2 ?_
  refine h_nmI e1 ?_
  refine h_aload_n dX8_image_5 rfl ?_
  refine h_iconst (1 : Int32) dX8_image_6 k_iconst_1 ?_
  obtain ⟨I2', e2, h⟩ := bnd_some h
  refine p_X8_329  rfl dX8_image_7 ?_
  refine h_nmI e2 ?_
  refine h_aload_n dX8_image_10 rfl ?_
  refine h_aload_n dX8_image_11 rfl ?_
  refine g_X8_323  dX8_image_12 ?_
  obtain ⟨I3', e3, h⟩ := bnd_some h
  refine p_X8_473  dX8_image_15 ?_
  refine h_nmI e3 ?_
  refine h_aload_n dX8_image_18 rfl ?_
  refine h_aload_n dX8_image_19 rfl ?_
  refine g_X8_326  dX8_image_20 ?_
  obtain ⟨I4', e4, h⟩ := bnd_some h
  refine p_X8_476  dX8_image_23 ?_
  refine h_nmI e4 ?_
  refine h_aload_n dX8_image_26 rfl ?_
  refine h_aload_n dX8_image_27 rfl ?_
  refine g_X8_132  dX8_image_28 ?_
  refine h_iconst (0 : Int32) dX8_image_31 k_iconst_0 ?_
  obtain ⟨y1, hh1, h⟩ := obd_some h
  refine h_cVv [.inr (.inr (80, 0, 0)), .inl (0 : Int32)] (m_X8_pack rfl hh1) cw_X8_429 dX8_image_32 rfl ok_8 (by decide) rfl (Or.inr rfl) rfl ?_
  refine h_aload_n dX8_image_35 rfl ?_
  refine g_X8_135  dX8_image_36 ?_
  refine h_aload_n dX8_image_39 rfl ?_
  refine g_X8_82  dX8_image_40 ?_
  obtain ⟨y2, hh2, h⟩ := obd_some h
  refine h_cSv [.inr (.inr (81, 0, 0)), .inr (.inr (65, 0, 0))] (m_X8_be rfl rfl hh2) cs_X8_479 dX8_image_43 rfl (by decide) rfl (Or.inr rfl) rfl ?_
  refine h_aload_n dX8_image_46 rfl ?_
  refine g_X8_138  dX8_image_47 ?_
  refine h_aload_n dX8_image_50 rfl ?_
  refine g_X8_123  dX8_image_51 ?_
  obtain ⟨y3, hh3, h⟩ := obd_some h
  refine h_cSv [.inr (.inr (82, 0, 0)), .inr (.inr (77, 0, 0))] (m_X8_be rfl rfl hh3) cs_X8_479 dX8_image_54 rfl (by decide) rfl (Or.inr rfl) rfl ?_
  refine h_aload_n dX8_image_57 rfl ?_
  refine g_X8_141  dX8_image_58 ?_
  refine h_aload_n dX8_image_61 rfl ?_
  refine g_X8_126  dX8_image_62 ?_
  obtain ⟨y4, hh4, h⟩ := obd_some h
  refine h_cSv [.inr (.inr (83, 0, 0)), .inr (.inr (78, 0, 0))] (m_X8_be rfl rfl hh4) cs_X8_479 dX8_image_65 rfl (by decide) rfl (Or.inr rfl) rfl ?_
  refine h_aload_n dX8_image_68 rfl ?_
  refine g_X8_144  dX8_image_69 ?_
  refine h_aload_n dX8_image_72 rfl ?_
  refine g_X8_129  dX8_image_73 ?_
  obtain ⟨y5, hh5, h⟩ := obd_some h
  refine h_cSv [.inr (.inr (84, 0, 0)), .inr (.inr (79, 0, 0))] (m_X8_be rfl rfl hh5) cs_X8_479 dX8_image_76 rfl (by decide) rfl (Or.inr rfl) rfl ?_
  refine h_aload_n dX8_image_79 rfl ?_
  refine g_X8_147  dX8_image_80 ?_
  refine h_aload_n dX8_image_83 rfl ?_
  refine g_X8_60  dX8_image_84 ?_
  obtain ⟨y6, hh6, h⟩ := obd_some h
  refine h_cSv [.inr (.inr (85, 0, 0)), .inr (.inr (59, 0, 0))] (m_X8_be rfl rfl hh6) cs_X8_479 dX8_image_87 rfl (by decide) rfl (Or.inr rfl) rfl ?_
  cases h
  exact h_vret dX8_image_90 rfl E
theorem m_X8_image {I : Mem} {P : PMem} {O : Nat → Int64} {D : Bool} {n : Nat}  {r : (Mem)}  (h : f_X8_image I = some r) : MethR yX8_image cX8_image 1 (none) 3 [.inr (.inr (8, 0, 0))] I P O D n none r P O D n := meth_R (Nat.le_refl _) (by decide) rfl (Nat.le_of_ble_eq_true rfl) rfl (fun X Q E => b_X8_image X Q  h E)
def f_X8_restore   (I : Mem) : Option (Int32 × Mem) :=
  bnd (upd4 I 8 0 0 2 (0 : Int32)) fun I1' =>
  if (I1' 8 0 0 54) = 0 then (some ((0 : Int32), I1')) else (bnd (upd4 I1' 8 0 0 33 (I1' 8 0 0 55)) fun I2' =>
  bnd (upd4 I2' 8 0 0 34 (I2' 8 0 0 56)) fun I3' =>
  (f_X8_unpack 80 0 0 I3' (0 : Int32)).bind fun y1 =>
  (f_X8_be 65 0 0 81 0 0 y1).bind fun y2 =>
  (f_X8_be 77 0 0 82 0 0 y2).bind fun y3 =>
  (f_X8_be 78 0 0 83 0 0 y3).bind fun y4 =>
  (f_X8_be 79 0 0 84 0 0 y4).bind fun y5 =>
  (f_X8_be 59 0 0 85 0 0 y5).bind fun y6 =>
  some ((1 : Int32), y6))
theorem b_X8_restore (X : CX) (Q : State → Prop) {I : Mem} {P : PMem} {O : Nat → Int64} {D : Bool} {n : Nat} {r : (Int32 × Mem)}  (h : f_X8_restore I = some r) (E : EndR X cX8_restore RX8 1 (some .boolean) 3 n (some (.inl r.1)) r.2 P O D Q) : Here X cX8_restore RX8 1 (some .boolean) 3 n 0 [some (.inr (.inr (8, 0, 0)))] [] I P O D n Q := by
  unfold f_X8_restore at h
  refine h_aload_n dX8_restore_0 rfl ?_
  refine h_iconst (0 : Int32) dX8_restore_1 k_iconst_0 ?_
  obtain ⟨I1', e1, h⟩ := bnd_some h
  refine p_X8_150  dX8_restore_2 ?_
  refine h_nmI e1 ?_
  refine h_aload_n dX8_restore_5 rfl ?_
  refine g_X8_329  dX8_restore_6 ?_
  refine h_if_ne (tgt := 14) dX8_restore_9 (by decide) (fun q1 => ?_) (fun q1 => ?_)
  · rw [if_neg q1] at h
    refine h_aload_n dX8_restore_14 rfl ?_
    refine h_aload_n dX8_restore_15 rfl ?_
    refine g_X8_473  dX8_restore_16 ?_
    obtain ⟨I2', e2, h⟩ := bnd_some h
    refine p_X8_323  dX8_restore_19 ?_
    refine h_nmI e2 ?_
    refine h_aload_n dX8_restore_22 rfl ?_
    refine h_aload_n dX8_restore_23 rfl ?_
    refine g_X8_476  dX8_restore_24 ?_
    obtain ⟨I3', e3, h⟩ := bnd_some h
    refine p_X8_326  dX8_restore_27 ?_
    refine h_nmI e3 ?_
    refine h_aload_n dX8_restore_30 rfl ?_
    refine h_aload_n dX8_restore_31 rfl ?_
    refine g_X8_132  dX8_restore_32 ?_
    refine h_iconst (0 : Int32) dX8_restore_35 k_iconst_0 ?_
    obtain ⟨y1, hh1, h⟩ := obd_some h
    refine h_cVv [.inr (.inr (80, 0, 0)), .inl (0 : Int32)] (m_X8_unpack rfl hh1) cw_X8_449 dX8_restore_36 rfl ok_8 (by decide) rfl (Or.inr rfl) rfl ?_
    refine h_aload_n dX8_restore_39 rfl ?_
    refine g_X8_82  dX8_restore_40 ?_
    refine h_aload_n dX8_restore_43 rfl ?_
    refine g_X8_135  dX8_restore_44 ?_
    obtain ⟨y2, hh2, h⟩ := obd_some h
    refine h_cSv [.inr (.inr (65, 0, 0)), .inr (.inr (81, 0, 0))] (m_X8_be rfl rfl hh2) cs_X8_479 dX8_restore_47 rfl (by decide) rfl (Or.inr rfl) rfl ?_
    refine h_aload_n dX8_restore_50 rfl ?_
    refine g_X8_123  dX8_restore_51 ?_
    refine h_aload_n dX8_restore_54 rfl ?_
    refine g_X8_138  dX8_restore_55 ?_
    obtain ⟨y3, hh3, h⟩ := obd_some h
    refine h_cSv [.inr (.inr (77, 0, 0)), .inr (.inr (82, 0, 0))] (m_X8_be rfl rfl hh3) cs_X8_479 dX8_restore_58 rfl (by decide) rfl (Or.inr rfl) rfl ?_
    refine h_aload_n dX8_restore_61 rfl ?_
    refine g_X8_126  dX8_restore_62 ?_
    refine h_aload_n dX8_restore_65 rfl ?_
    refine g_X8_141  dX8_restore_66 ?_
    obtain ⟨y4, hh4, h⟩ := obd_some h
    refine h_cSv [.inr (.inr (78, 0, 0)), .inr (.inr (83, 0, 0))] (m_X8_be rfl rfl hh4) cs_X8_479 dX8_restore_69 rfl (by decide) rfl (Or.inr rfl) rfl ?_
    refine h_aload_n dX8_restore_72 rfl ?_
    refine g_X8_129  dX8_restore_73 ?_
    refine h_aload_n dX8_restore_76 rfl ?_
    refine g_X8_144  dX8_restore_77 ?_
    obtain ⟨y5, hh5, h⟩ := obd_some h
    refine h_cSv [.inr (.inr (79, 0, 0)), .inr (.inr (84, 0, 0))] (m_X8_be rfl rfl hh5) cs_X8_479 dX8_restore_80 rfl (by decide) rfl (Or.inr rfl) rfl ?_
    refine h_aload_n dX8_restore_83 rfl ?_
    refine g_X8_60  dX8_restore_84 ?_
    refine h_aload_n dX8_restore_87 rfl ?_
    refine g_X8_147  dX8_restore_88 ?_
    obtain ⟨y6, hh6, h⟩ := obd_some h
    refine h_cSv [.inr (.inr (59, 0, 0)), .inr (.inr (85, 0, 0))] (m_X8_be rfl rfl hh6) cs_X8_479 dX8_restore_91 rfl (by decide) rfl (Or.inr rfl) rfl ?_
    refine h_iconst (1 : Int32) dX8_restore_94 k_iconst_1 ?_
    cases h
    exact h_zret dX8_restore_95 rfl rfl E
  · rw [if_pos q1] at h
    refine h_iconst (0 : Int32) dX8_restore_12 k_iconst_0 ?_
    cases h
    exact h_zret dX8_restore_13 rfl rfl E
theorem m_X8_restore {I : Mem} {P : PMem} {O : Nat → Int64} {D : Bool} {n : Nat}  {r : (Int32 × Mem)}  (h : f_X8_restore I = some r) : MethR yX8_restore cX8_restore 1 (some .boolean) 3 [.inr (.inr (8, 0, 0))] I P O D n (some (.inl r.1)) r.2 P O D n := meth_R (Nat.le_refl _) (by decide) rfl (Nat.le_of_ble_eq_true rfl) rfl (fun X Q E => b_X8_restore X Q  h E)
