theorem dX7_init_0 : decode cX7_init 0 = .ok (.aload_n 0, 1) := by decide +kernel
theorem dX7_init_1 : decode cX7_init 1 = .ok (.invokespecial 1, 3) := by decide +kernel
theorem dX7_init_4 : decode cX7_init 4 = .ok (.aload_n 0, 1) := by decide +kernel
theorem dX7_init_5 : decode cX7_init 5 = .ok (.sipush 600, 3) := by decide +kernel
theorem dX7_init_8 : decode cX7_init 8 = .ok (.newarray .byte, 2) := by decide +kernel
theorem dX7_init_10 : decode cX7_init 10 = .ok (.putfield 9, 3) := by decide +kernel
theorem dX7_init_13 : decode cX7_init 13 = .ok (.aload_n 0, 1) := by decide +kernel
theorem dX7_init_14 : decode cX7_init 14 = .ok (.new 13, 3) := by decide +kernel
theorem dX7_init_17 : decode cX7_init 17 = .ok (.dup, 1) := by decide +kernel
theorem dX7_init_18 : decode cX7_init 18 = .ok (.invokespecial 15, 3) := by decide +kernel
theorem dX7_init_21 : decode cX7_init 21 = .ok (.putfield 16, 3) := by decide +kernel
theorem dX7_init_24 : decode cX7_init 24 = .ok (.aload_n 0, 1) := by decide +kernel
theorem dX7_init_25 : decode cX7_init 25 = .ok (.new 13, 3) := by decide +kernel
theorem dX7_init_28 : decode cX7_init 28 = .ok (.dup, 1) := by decide +kernel
theorem dX7_init_29 : decode cX7_init 29 = .ok (.invokespecial 15, 3) := by decide +kernel
theorem dX7_init_32 : decode cX7_init 32 = .ok (.putfield 20, 3) := by decide +kernel
theorem dX7_init_35 : decode cX7_init 35 = .ok (.aload_n 0, 1) := by decide +kernel
theorem dX7_init_36 : decode cX7_init 36 = .ok (.new 23, 3) := by decide +kernel
theorem dX7_init_39 : decode cX7_init 39 = .ok (.dup, 1) := by decide +kernel
theorem dX7_init_40 : decode cX7_init 40 = .ok (.aload_n 0, 1) := by decide +kernel
theorem dX7_init_41 : decode cX7_init 41 = .ok (.getfield 9, 3) := by decide +kernel
theorem dX7_init_44 : decode cX7_init 44 = .ok (.aload_n 0, 1) := by decide +kernel
theorem dX7_init_45 : decode cX7_init 45 = .ok (.getfield 20, 3) := by decide +kernel
theorem dX7_init_48 : decode cX7_init 48 = .ok (.invokespecial 25, 3) := by decide +kernel
theorem dX7_init_51 : decode cX7_init 51 = .ok (.putfield 28, 3) := by decide +kernel
theorem dX7_init_54 : decode cX7_init 54 = .ok (.aload_n 0, 1) := by decide +kernel
theorem dX7_init_55 : decode cX7_init 55 = .ok (.new 32, 3) := by decide +kernel
theorem dX7_init_58 : decode cX7_init 58 = .ok (.dup, 1) := by decide +kernel
theorem dX7_init_59 : decode cX7_init 59 = .ok (.invokespecial 34, 3) := by decide +kernel
theorem dX7_init_62 : decode cX7_init 62 = .ok (.putfield 35, 3) := by decide +kernel
theorem dX7_init_65 : decode cX7_init 65 = .ok (.aload_n 0, 1) := by decide +kernel
theorem dX7_init_66 : decode cX7_init 66 = .ok (.new 32, 3) := by decide +kernel
theorem dX7_init_69 : decode cX7_init 69 = .ok (.dup, 1) := by decide +kernel
theorem dX7_init_70 : decode cX7_init 70 = .ok (.invokespecial 34, 3) := by decide +kernel
theorem dX7_init_73 : decode cX7_init 73 = .ok (.putfield 39, 3) := by decide +kernel
theorem dX7_init_76 : decode cX7_init 76 = .ok (.aload_n 0, 1) := by decide +kernel
theorem dX7_init_77 : decode cX7_init 77 = .ok (.new 42, 3) := by decide +kernel
theorem dX7_init_80 : decode cX7_init 80 = .ok (.dup, 1) := by decide +kernel
theorem dX7_init_81 : decode cX7_init 81 = .ok (.aload_n 0, 1) := by decide +kernel
theorem dX7_init_82 : decode cX7_init 82 = .ok (.getfield 16, 3) := by decide +kernel
theorem dX7_init_85 : decode cX7_init 85 = .ok (.aload_n 0, 1) := by decide +kernel
theorem dX7_init_86 : decode cX7_init 86 = .ok (.getfield 35, 3) := by decide +kernel
theorem dX7_init_89 : decode cX7_init 89 = .ok (.invokespecial 44, 3) := by decide +kernel
theorem dX7_init_92 : decode cX7_init 92 = .ok (.putfield 47, 3) := by decide +kernel
theorem dX7_init_95 : decode cX7_init 95 = .ok (.aload_n 0, 1) := by decide +kernel
theorem dX7_init_96 : decode cX7_init 96 = .ok (.new 42, 3) := by decide +kernel
theorem dX7_init_99 : decode cX7_init 99 = .ok (.dup, 1) := by decide +kernel
theorem dX7_init_100 : decode cX7_init 100 = .ok (.aload_n 0, 1) := by decide +kernel
theorem dX7_init_101 : decode cX7_init 101 = .ok (.getfield 16, 3) := by decide +kernel
theorem dX7_init_104 : decode cX7_init 104 = .ok (.aload_n 0, 1) := by decide +kernel
theorem dX7_init_105 : decode cX7_init 105 = .ok (.getfield 35, 3) := by decide +kernel
theorem dX7_init_108 : decode cX7_init 108 = .ok (.invokespecial 44, 3) := by decide +kernel
theorem dX7_init_111 : decode cX7_init 111 = .ok (.putfield 51, 3) := by decide +kernel
theorem dX7_init_114 : decode cX7_init 114 = .ok (.aload_n 0, 1) := by decide +kernel
theorem dX7_init_115 : decode cX7_init 115 = .ok (.iconst (-1), 1) := by decide +kernel
theorem dX7_init_116 : decode cX7_init 116 = .ok (.putfield 54, 3) := by decide +kernel
theorem dX7_init_119 : decode cX7_init 119 = .ok (.return_, 1) := by decide +kernel
theorem dX8_init_0 : decode cX8_init 0 = .ok (.aload_n 0, 1) := by decide +kernel
theorem dX8_init_1 : decode cX8_init 1 = .ok (.invokespecial 3, 3) := by decide +kernel
theorem dX8_init_4 : decode cX8_init 4 = .ok (.aload_n 0, 1) := by decide +kernel
theorem dX8_init_5 : decode cX8_init 5 = .ok (.iconst 3, 1) := by decide +kernel
theorem dX8_init_6 : decode cX8_init 6 = .ok (.anewarray 9, 3) := by decide +kernel
theorem dX8_init_9 : decode cX8_init 9 = .ok (.dup, 1) := by decide +kernel
theorem dX8_init_10 : decode cX8_init 10 = .ok (.iconst 0, 1) := by decide +kernel
theorem dX8_init_11 : decode cX8_init 11 = .ok (.ldc 11, 2) := by decide +kernel
theorem dX8_init_13 : decode cX8_init 13 = .ok (.aastore, 1) := by decide +kernel
theorem dX8_init_14 : decode cX8_init 14 = .ok (.dup, 1) := by decide +kernel
theorem dX8_init_15 : decode cX8_init 15 = .ok (.iconst 1, 1) := by decide +kernel
theorem dX8_init_16 : decode cX8_init 16 = .ok (.ldc 13, 2) := by decide +kernel
theorem dX8_init_18 : decode cX8_init 18 = .ok (.aastore, 1) := by decide +kernel
theorem dX8_init_19 : decode cX8_init 19 = .ok (.dup, 1) := by decide +kernel
theorem dX8_init_20 : decode cX8_init 20 = .ok (.iconst 2, 1) := by decide +kernel
theorem dX8_init_21 : decode cX8_init 21 = .ok (.ldc 15, 2) := by decide +kernel
theorem dX8_init_23 : decode cX8_init 23 = .ok (.aastore, 1) := by decide +kernel
theorem dX8_init_24 : decode cX8_init 24 = .ok (.putfield 17, 3) := by decide +kernel
theorem dX8_init_27 : decode cX8_init 27 = .ok (.aload_n 0, 1) := by decide +kernel
theorem dX8_init_28 : decode cX8_init 28 = .ok (.iconst 5, 1) := by decide +kernel
theorem dX8_init_29 : decode cX8_init 29 = .ok (.anewarray 9, 3) := by decide +kernel
theorem dX8_init_32 : decode cX8_init 32 = .ok (.dup, 1) := by decide +kernel
theorem dX8_init_33 : decode cX8_init 33 = .ok (.iconst 0, 1) := by decide +kernel
theorem dX8_init_34 : decode cX8_init 34 = .ok (.ldc 21, 2) := by decide +kernel
theorem dX8_init_36 : decode cX8_init 36 = .ok (.aastore, 1) := by decide +kernel
theorem dX8_init_37 : decode cX8_init 37 = .ok (.dup, 1) := by decide +kernel
theorem dX8_init_38 : decode cX8_init 38 = .ok (.iconst 1, 1) := by decide +kernel
theorem dX8_init_39 : decode cX8_init 39 = .ok (.ldc 23, 2) := by decide +kernel
theorem dX8_init_41 : decode cX8_init 41 = .ok (.aastore, 1) := by decide +kernel
theorem dX8_init_42 : decode cX8_init 42 = .ok (.dup, 1) := by decide +kernel
theorem dX8_init_43 : decode cX8_init 43 = .ok (.iconst 2, 1) := by decide +kernel
theorem dX8_init_44 : decode cX8_init 44 = .ok (.ldc 25, 2) := by decide +kernel
theorem dX8_init_46 : decode cX8_init 46 = .ok (.aastore, 1) := by decide +kernel
theorem dX8_init_47 : decode cX8_init 47 = .ok (.dup, 1) := by decide +kernel
theorem dX8_init_48 : decode cX8_init 48 = .ok (.iconst 3, 1) := by decide +kernel
theorem dX8_init_49 : decode cX8_init 49 = .ok (.ldc 27, 2) := by decide +kernel
theorem dX8_init_51 : decode cX8_init 51 = .ok (.aastore, 1) := by decide +kernel
theorem dX8_init_52 : decode cX8_init 52 = .ok (.dup, 1) := by decide +kernel
theorem dX8_init_53 : decode cX8_init 53 = .ok (.iconst 4, 1) := by decide +kernel
theorem dX8_init_54 : decode cX8_init 54 = .ok (.ldc 29, 2) := by decide +kernel
theorem dX8_init_56 : decode cX8_init 56 = .ok (.aastore, 1) := by decide +kernel
theorem dX8_init_57 : decode cX8_init 57 = .ok (.putfield 31, 3) := by decide +kernel
theorem dX8_init_60 : decode cX8_init 60 = .ok (.aload_n 0, 1) := by decide +kernel
theorem dX8_init_61 : decode cX8_init 61 = .ok (.bipush 14, 2) := by decide +kernel
theorem dX8_init_63 : decode cX8_init 63 = .ok (.newarray .int, 2) := by decide +kernel
theorem dX8_init_65 : decode cX8_init 65 = .ok (.dup, 1) := by decide +kernel
theorem dX8_init_66 : decode cX8_init 66 = .ok (.iconst 0, 1) := by decide +kernel
theorem dX8_init_67 : decode cX8_init 67 = .ok (.iconst 0, 1) := by decide +kernel
theorem dX8_init_68 : decode cX8_init 68 = .ok (.iastore, 1) := by decide +kernel
theorem dX8_init_69 : decode cX8_init 69 = .ok (.dup, 1) := by decide +kernel
theorem dX8_init_70 : decode cX8_init 70 = .ok (.iconst 1, 1) := by decide +kernel
theorem dX8_init_71 : decode cX8_init 71 = .ok (.iconst 0, 1) := by decide +kernel
theorem dX8_init_72 : decode cX8_init 72 = .ok (.iastore, 1) := by decide +kernel
theorem dX8_init_73 : decode cX8_init 73 = .ok (.dup, 1) := by decide +kernel
theorem dX8_init_74 : decode cX8_init 74 = .ok (.iconst 2, 1) := by decide +kernel
theorem dX8_init_75 : decode cX8_init 75 = .ok (.iconst 0, 1) := by decide +kernel
theorem dX8_init_76 : decode cX8_init 76 = .ok (.iastore, 1) := by decide +kernel
theorem dX8_init_77 : decode cX8_init 77 = .ok (.dup, 1) := by decide +kernel
theorem dX8_init_78 : decode cX8_init 78 = .ok (.iconst 3, 1) := by decide +kernel
theorem dX8_init_79 : decode cX8_init 79 = .ok (.bipush 10, 2) := by decide +kernel
theorem dX8_init_81 : decode cX8_init 81 = .ok (.iastore, 1) := by decide +kernel
theorem dX8_init_82 : decode cX8_init 82 = .ok (.dup, 1) := by decide +kernel
theorem dX8_init_83 : decode cX8_init 83 = .ok (.iconst 4, 1) := by decide +kernel
theorem dX8_init_84 : decode cX8_init 84 = .ok (.iconst 0, 1) := by decide +kernel
theorem dX8_init_85 : decode cX8_init 85 = .ok (.iastore, 1) := by decide +kernel
theorem dX8_init_86 : decode cX8_init 86 = .ok (.dup, 1) := by decide +kernel
theorem dX8_init_87 : decode cX8_init 87 = .ok (.iconst 5, 1) := by decide +kernel
theorem dX8_init_88 : decode cX8_init 88 = .ok (.iconst 0, 1) := by decide +kernel
theorem dX8_init_89 : decode cX8_init 89 = .ok (.iastore, 1) := by decide +kernel
theorem dX8_init_90 : decode cX8_init 90 = .ok (.dup, 1) := by decide +kernel
theorem dX8_init_91 : decode cX8_init 91 = .ok (.bipush 6, 2) := by decide +kernel
theorem dX8_init_93 : decode cX8_init 93 = .ok (.iconst 0, 1) := by decide +kernel
theorem dX8_init_94 : decode cX8_init 94 = .ok (.iastore, 1) := by decide +kernel
theorem dX8_init_95 : decode cX8_init 95 = .ok (.dup, 1) := by decide +kernel
theorem dX8_init_96 : decode cX8_init 96 = .ok (.bipush 7, 2) := by decide +kernel
theorem dX8_init_98 : decode cX8_init 98 = .ok (.iconst 0, 1) := by decide +kernel
theorem dX8_init_99 : decode cX8_init 99 = .ok (.iastore, 1) := by decide +kernel
theorem dX8_init_100 : decode cX8_init 100 = .ok (.dup, 1) := by decide +kernel
theorem dX8_init_101 : decode cX8_init 101 = .ok (.bipush 8, 2) := by decide +kernel
theorem dX8_init_103 : decode cX8_init 103 = .ok (.iconst 0, 1) := by decide +kernel
theorem dX8_init_104 : decode cX8_init 104 = .ok (.iastore, 1) := by decide +kernel
theorem dX8_init_105 : decode cX8_init 105 = .ok (.dup, 1) := by decide +kernel
theorem dX8_init_106 : decode cX8_init 106 = .ok (.bipush 9, 2) := by decide +kernel
theorem dX8_init_108 : decode cX8_init 108 = .ok (.iconst 0, 1) := by decide +kernel
theorem dX8_init_109 : decode cX8_init 109 = .ok (.iastore, 1) := by decide +kernel
theorem dX8_init_110 : decode cX8_init 110 = .ok (.dup, 1) := by decide +kernel
theorem dX8_init_111 : decode cX8_init 111 = .ok (.bipush 10, 2) := by decide +kernel
theorem dX8_init_113 : decode cX8_init 113 = .ok (.bipush 10, 2) := by decide +kernel
theorem dX8_init_115 : decode cX8_init 115 = .ok (.iastore, 1) := by decide +kernel
theorem dX8_init_116 : decode cX8_init 116 = .ok (.dup, 1) := by decide +kernel
theorem dX8_init_117 : decode cX8_init 117 = .ok (.bipush 11, 2) := by decide +kernel
theorem dX8_init_119 : decode cX8_init 119 = .ok (.iconst 0, 1) := by decide +kernel
theorem dX8_init_120 : decode cX8_init 120 = .ok (.iastore, 1) := by decide +kernel
theorem dX8_init_121 : decode cX8_init 121 = .ok (.dup, 1) := by decide +kernel
theorem dX8_init_122 : decode cX8_init 122 = .ok (.bipush 12, 2) := by decide +kernel
theorem dX8_init_124 : decode cX8_init 124 = .ok (.iconst 0, 1) := by decide +kernel
theorem dX8_init_125 : decode cX8_init 125 = .ok (.iastore, 1) := by decide +kernel
theorem dX8_init_126 : decode cX8_init 126 = .ok (.dup, 1) := by decide +kernel
theorem dX8_init_127 : decode cX8_init 127 = .ok (.bipush 13, 2) := by decide +kernel
theorem dX8_init_129 : decode cX8_init 129 = .ok (.iconst 0, 1) := by decide +kernel
theorem dX8_init_130 : decode cX8_init 130 = .ok (.iastore, 1) := by decide +kernel
theorem dX8_init_131 : decode cX8_init 131 = .ok (.putfield 34, 3) := by decide +kernel
theorem dX8_init_134 : decode cX8_init 134 = .ok (.aload_n 0, 1) := by decide +kernel
theorem dX8_init_135 : decode cX8_init 135 = .ok (.sipush 162, 3) := by decide +kernel
theorem dX8_init_138 : decode cX8_init 138 = .ok (.newarray .int, 2) := by decide +kernel
theorem dX8_init_140 : decode cX8_init 140 = .ok (.putfield 38, 3) := by decide +kernel
theorem dX8_init_143 : decode cX8_init 143 = .ok (.aload_n 0, 1) := by decide +kernel
theorem dX8_init_144 : decode cX8_init 144 = .ok (.bipush 10, 2) := by decide +kernel
theorem dX8_init_146 : decode cX8_init 146 = .ok (.newarray .int, 2) := by decide +kernel
theorem dX8_init_148 : decode cX8_init 148 = .ok (.putfield 41, 3) := by decide +kernel
theorem dX8_init_151 : decode cX8_init 151 = .ok (.aload_n 0, 1) := by decide +kernel
theorem dX8_init_152 : decode cX8_init 152 = .ok (.bipush 10, 2) := by decide +kernel
theorem dX8_init_154 : decode cX8_init 154 = .ok (.newarray .int, 2) := by decide +kernel
theorem dX8_init_156 : decode cX8_init 156 = .ok (.putfield 44, 3) := by decide +kernel
theorem dX8_init_159 : decode cX8_init 159 = .ok (.aload_n 0, 1) := by decide +kernel
theorem dX8_init_160 : decode cX8_init 160 = .ok (.bipush 10, 2) := by decide +kernel
theorem dX8_init_162 : decode cX8_init 162 = .ok (.newarray .int, 2) := by decide +kernel
theorem dX8_init_164 : decode cX8_init 164 = .ok (.putfield 47, 3) := by decide +kernel
theorem dX8_init_167 : decode cX8_init 167 = .ok (.aload_n 0, 1) := by decide +kernel
theorem dX8_init_168 : decode cX8_init 168 = .ok (.bipush 10, 2) := by decide +kernel
theorem dX8_init_170 : decode cX8_init 170 = .ok (.newarray .int, 2) := by decide +kernel
theorem dX8_init_172 : decode cX8_init 172 = .ok (.putfield 49, 3) := by decide +kernel
theorem dX8_init_175 : decode cX8_init 175 = .ok (.aload_n 0, 1) := by decide +kernel
theorem dX8_init_176 : decode cX8_init 176 = .ok (.bipush 70, 2) := by decide +kernel
theorem dX8_init_178 : decode cX8_init 178 = .ok (.newarray .int, 2) := by decide +kernel
theorem dX8_init_180 : decode cX8_init 180 = .ok (.putfield 52, 3) := by decide +kernel
theorem dX8_init_183 : decode cX8_init 183 = .ok (.aload_n 0, 1) := by decide +kernel
theorem dX8_init_184 : decode cX8_init 184 = .ok (.bipush 108, 2) := by decide +kernel
theorem dX8_init_186 : decode cX8_init 186 = .ok (.newarray .int, 2) := by decide +kernel
theorem dX8_init_188 : decode cX8_init 188 = .ok (.putfield 55, 3) := by decide +kernel
theorem dX8_init_191 : decode cX8_init 191 = .ok (.aload_n 0, 1) := by decide +kernel
theorem dX8_init_192 : decode cX8_init 192 = .ok (.sipush 1200, 3) := by decide +kernel
theorem dX8_init_195 : decode cX8_init 195 = .ok (.newarray .int, 2) := by decide +kernel
theorem dX8_init_197 : decode cX8_init 197 = .ok (.putfield 57, 3) := by decide +kernel
theorem dX8_init_200 : decode cX8_init 200 = .ok (.aload_n 0, 1) := by decide +kernel
theorem dX8_init_201 : decode cX8_init 201 = .ok (.iconst 3, 1) := by decide +kernel
theorem dX8_init_202 : decode cX8_init 202 = .ok (.newarray .int, 2) := by decide +kernel
theorem dX8_init_204 : decode cX8_init 204 = .ok (.putfield 60, 3) := by decide +kernel
theorem dX8_init_207 : decode cX8_init 207 = .ok (.aload_n 0, 1) := by decide +kernel
theorem dX8_init_208 : decode cX8_init 208 = .ok (.sipush 600, 3) := by decide +kernel
theorem dX8_init_211 : decode cX8_init 211 = .ok (.newarray .int, 2) := by decide +kernel
theorem dX8_init_213 : decode cX8_init 213 = .ok (.putfield 63, 3) := by decide +kernel
theorem dX8_init_216 : decode cX8_init 216 = .ok (.aload_n 0, 1) := by decide +kernel
theorem dX8_init_217 : decode cX8_init 217 = .ok (.iconst (-1), 1) := by decide +kernel
theorem dX8_init_218 : decode cX8_init 218 = .ok (.putfield 66, 3) := by decide +kernel
theorem dX8_init_221 : decode cX8_init 221 = .ok (.aload_n 0, 1) := by decide +kernel
theorem dX8_init_222 : decode cX8_init 222 = .ok (.bipush 81, 2) := by decide +kernel
theorem dX8_init_224 : decode cX8_init 224 = .ok (.newarray .int, 2) := by decide +kernel
theorem dX8_init_226 : decode cX8_init 226 = .ok (.putfield 70, 3) := by decide +kernel
theorem dX8_init_229 : decode cX8_init 229 = .ok (.aload_n 0, 1) := by decide +kernel
theorem dX8_init_230 : decode cX8_init 230 = .ok (.bipush 15, 2) := by decide +kernel
theorem dX8_init_232 : decode cX8_init 232 = .ok (.newarray .int, 2) := by decide +kernel
theorem dX8_init_234 : decode cX8_init 234 = .ok (.putfield 73, 3) := by decide +kernel
theorem dX8_init_237 : decode cX8_init 237 = .ok (.aload_n 0, 1) := by decide +kernel
theorem dX8_init_238 : decode cX8_init 238 = .ok (.bipush 12, 2) := by decide +kernel
theorem dX8_init_240 : decode cX8_init 240 = .ok (.newarray .int, 2) := by decide +kernel
theorem dX8_init_242 : decode cX8_init 242 = .ok (.putfield 76, 3) := by decide +kernel
theorem dX8_init_245 : decode cX8_init 245 = .ok (.aload_n 0, 1) := by decide +kernel
theorem dX8_init_246 : decode cX8_init 246 = .ok (.bipush 18, 2) := by decide +kernel
theorem dX8_init_248 : decode cX8_init 248 = .ok (.newarray .int, 2) := by decide +kernel
theorem dX8_init_250 : decode cX8_init 250 = .ok (.putfield 79, 3) := by decide +kernel
theorem dX8_init_253 : decode cX8_init 253 = .ok (.aload_n 0, 1) := by decide +kernel
theorem dX8_init_254 : decode cX8_init 254 = .ok (.sipush 1800, 3) := by decide +kernel
theorem dX8_init_257 : decode cX8_init 257 = .ok (.newarray .int, 2) := by decide +kernel
theorem dX8_init_259 : decode cX8_init 259 = .ok (.putfield 82, 3) := by decide +kernel
theorem dX8_init_262 : decode cX8_init 262 = .ok (.aload_n 0, 1) := by decide +kernel
theorem dX8_init_263 : decode cX8_init 263 = .ok (.iconst 5, 1) := by decide +kernel
theorem dX8_init_264 : decode cX8_init 264 = .ok (.newarray .int, 2) := by decide +kernel
theorem dX8_init_266 : decode cX8_init 266 = .ok (.putfield 85, 3) := by decide +kernel
theorem dX8_init_269 : decode cX8_init 269 = .ok (.aload_n 0, 1) := by decide +kernel
theorem dX8_init_270 : decode cX8_init 270 = .ok (.bipush 64, 2) := by decide +kernel
theorem dX8_init_272 : decode cX8_init 272 = .ok (.newarray .int, 2) := by decide +kernel
theorem dX8_init_274 : decode cX8_init 274 = .ok (.putfield 88, 3) := by decide +kernel
theorem dX8_init_277 : decode cX8_init 277 = .ok (.aload_n 0, 1) := by decide +kernel
theorem dX8_init_278 : decode cX8_init 278 = .ok (.bipush 35, 2) := by decide +kernel
theorem dX8_init_280 : decode cX8_init 280 = .ok (.newarray .int, 2) := by decide +kernel
theorem dX8_init_282 : decode cX8_init 282 = .ok (.putfield 91, 3) := by decide +kernel
theorem dX8_init_285 : decode cX8_init 285 = .ok (.aload_n 0, 1) := by decide +kernel
theorem dX8_init_286 : decode cX8_init 286 = .ok (.bipush 35, 2) := by decide +kernel
theorem dX8_init_288 : decode cX8_init 288 = .ok (.newarray .int, 2) := by decide +kernel
theorem dX8_init_290 : decode cX8_init 290 = .ok (.putfield 94, 3) := by decide +kernel
theorem dX8_init_293 : decode cX8_init 293 = .ok (.aload_n 0, 1) := by decide +kernel
theorem dX8_init_294 : decode cX8_init 294 = .ok (.bipush 25, 2) := by decide +kernel
theorem dX8_init_296 : decode cX8_init 296 = .ok (.newarray .int, 2) := by decide +kernel
theorem dX8_init_298 : decode cX8_init 298 = .ok (.putfield 97, 3) := by decide +kernel
theorem dX8_init_301 : decode cX8_init 301 = .ok (.aload_n 0, 1) := by decide +kernel
theorem dX8_init_302 : decode cX8_init 302 = .ok (.iconst (-1), 1) := by decide +kernel
theorem dX8_init_303 : decode cX8_init 303 = .ok (.putfield 100, 3) := by decide +kernel
theorem dX8_init_306 : decode cX8_init 306 = .ok (.aload_n 0, 1) := by decide +kernel
theorem dX8_init_307 : decode cX8_init 307 = .ok (.iconst (-1), 1) := by decide +kernel
theorem dX8_init_308 : decode cX8_init 308 = .ok (.putfield 103, 3) := by decide +kernel
theorem dX8_init_311 : decode cX8_init 311 = .ok (.aload_n 0, 1) := by decide +kernel
theorem dX8_init_312 : decode cX8_init 312 = .ok (.bipush 30, 2) := by decide +kernel
theorem dX8_init_314 : decode cX8_init 314 = .ok (.newarray .int, 2) := by decide +kernel
theorem dX8_init_316 : decode cX8_init 316 = .ok (.putfield 106, 3) := by decide +kernel
theorem dX8_init_319 : decode cX8_init 319 = .ok (.aload_n 0, 1) := by decide +kernel
theorem dX8_init_320 : decode cX8_init 320 = .ok (.bipush 30, 2) := by decide +kernel
theorem dX8_init_322 : decode cX8_init 322 = .ok (.newarray .int, 2) := by decide +kernel
theorem dX8_init_324 : decode cX8_init 324 = .ok (.putfield 108, 3) := by decide +kernel
theorem dX8_init_327 : decode cX8_init 327 = .ok (.aload_n 0, 1) := by decide +kernel
theorem dX8_init_328 : decode cX8_init 328 = .ok (.bipush 30, 2) := by decide +kernel
theorem dX8_init_330 : decode cX8_init 330 = .ok (.newarray .int, 2) := by decide +kernel
theorem dX8_init_332 : decode cX8_init 332 = .ok (.putfield 111, 3) := by decide +kernel
theorem dX8_init_335 : decode cX8_init 335 = .ok (.aload_n 0, 1) := by decide +kernel
theorem dX8_init_336 : decode cX8_init 336 = .ok (.bipush 30, 2) := by decide +kernel
theorem dX8_init_338 : decode cX8_init 338 = .ok (.newarray .int, 2) := by decide +kernel
theorem dX8_init_340 : decode cX8_init 340 = .ok (.putfield 114, 3) := by decide +kernel
theorem dX8_init_343 : decode cX8_init 343 = .ok (.aload_n 0, 1) := by decide +kernel
theorem dX8_init_344 : decode cX8_init 344 = .ok (.bipush 6, 2) := by decide +kernel
theorem dX8_init_346 : decode cX8_init 346 = .ok (.newarray .int, 2) := by decide +kernel
theorem dX8_init_348 : decode cX8_init 348 = .ok (.putfield 117, 3) := by decide +kernel
theorem dX8_init_351 : decode cX8_init 351 = .ok (.aload_n 0, 1) := by decide +kernel
theorem dX8_init_352 : decode cX8_init 352 = .ok (.bipush 6, 2) := by decide +kernel
theorem dX8_init_354 : decode cX8_init 354 = .ok (.newarray .int, 2) := by decide +kernel
theorem dX8_init_356 : decode cX8_init 356 = .ok (.putfield 120, 3) := by decide +kernel
theorem dX8_init_359 : decode cX8_init 359 = .ok (.aload_n 0, 1) := by decide +kernel
theorem dX8_init_360 : decode cX8_init 360 = .ok (.bipush 8, 2) := by decide +kernel
theorem dX8_init_362 : decode cX8_init 362 = .ok (.newarray .int, 2) := by decide +kernel
theorem dX8_init_364 : decode cX8_init 364 = .ok (.putfield 123, 3) := by decide +kernel
theorem dX8_init_367 : decode cX8_init 367 = .ok (.aload_n 0, 1) := by decide +kernel
theorem dX8_init_368 : decode cX8_init 368 = .ok (.bipush 8, 2) := by decide +kernel
theorem dX8_init_370 : decode cX8_init 370 = .ok (.newarray .int, 2) := by decide +kernel
theorem dX8_init_372 : decode cX8_init 372 = .ok (.putfield 126, 3) := by decide +kernel
theorem dX8_init_375 : decode cX8_init 375 = .ok (.aload_n 0, 1) := by decide +kernel
theorem dX8_init_376 : decode cX8_init 376 = .ok (.bipush 8, 2) := by decide +kernel
theorem dX8_init_378 : decode cX8_init 378 = .ok (.newarray .int, 2) := by decide +kernel
theorem dX8_init_380 : decode cX8_init 380 = .ok (.putfield 129, 3) := by decide +kernel
theorem dX8_init_383 : decode cX8_init 383 = .ok (.aload_n 0, 1) := by decide +kernel
theorem dX8_init_384 : decode cX8_init 384 = .ok (.bipush 45, 2) := by decide +kernel
theorem dX8_init_386 : decode cX8_init 386 = .ok (.newarray .int, 2) := by decide +kernel
theorem dX8_init_388 : decode cX8_init 388 = .ok (.putfield 132, 3) := by decide +kernel
theorem dX8_init_391 : decode cX8_init 391 = .ok (.aload_n 0, 1) := by decide +kernel
theorem dX8_init_392 : decode cX8_init 392 = .ok (.sipush 1800, 3) := by decide +kernel
theorem dX8_init_395 : decode cX8_init 395 = .ok (.newarray .int, 2) := by decide +kernel
theorem dX8_init_397 : decode cX8_init 397 = .ok (.putfield 135, 3) := by decide +kernel
theorem dX8_init_400 : decode cX8_init 400 = .ok (.aload_n 0, 1) := by decide +kernel
theorem dX8_init_401 : decode cX8_init 401 = .ok (.bipush 8, 2) := by decide +kernel
theorem dX8_init_403 : decode cX8_init 403 = .ok (.newarray .int, 2) := by decide +kernel
theorem dX8_init_405 : decode cX8_init 405 = .ok (.putfield 138, 3) := by decide +kernel
theorem dX8_init_408 : decode cX8_init 408 = .ok (.aload_n 0, 1) := by decide +kernel
theorem dX8_init_409 : decode cX8_init 409 = .ok (.bipush 8, 2) := by decide +kernel
theorem dX8_init_411 : decode cX8_init 411 = .ok (.newarray .int, 2) := by decide +kernel
theorem dX8_init_413 : decode cX8_init 413 = .ok (.putfield 141, 3) := by decide +kernel
theorem dX8_init_416 : decode cX8_init 416 = .ok (.aload_n 0, 1) := by decide +kernel
theorem dX8_init_417 : decode cX8_init 417 = .ok (.bipush 8, 2) := by decide +kernel
theorem dX8_init_419 : decode cX8_init 419 = .ok (.newarray .int, 2) := by decide +kernel
theorem dX8_init_421 : decode cX8_init 421 = .ok (.putfield 144, 3) := by decide +kernel
theorem dX8_init_424 : decode cX8_init 424 = .ok (.aload_n 0, 1) := by decide +kernel
theorem dX8_init_425 : decode cX8_init 425 = .ok (.iconst 3, 1) := by decide +kernel
theorem dX8_init_426 : decode cX8_init 426 = .ok (.newarray .int, 2) := by decide +kernel
theorem dX8_init_428 : decode cX8_init 428 = .ok (.putfield 147, 3) := by decide +kernel
theorem dX8_init_431 : decode cX8_init 431 = .ok (.return_, 1) := by decide +kernel
theorem wi_7 : Cond.instantiable RX7 12 ∈ GW := by decide +kernel
theorem wi_8 : Cond.instantiable RX8 63 ∈ GW := by decide +kernel
theorem df_8 : ∀ j, j < 63 → defaultValue (tyX8 j) = vp_V [.null, .null, .int 0, .null, .null, .null, .null, .null, .null, .null, .null, .null, .null, .null, .int 0, .int 0, .int 0, .int 0, .int 0, .int 0, .int 0, .int 0, .int 0, .int 0, .null, .null, .null, .null, .null, .int 0, .int 0, .int 0, .int 0, .int 0, .int 0, .null, .null, .null, .null, .null, .int 0, .int 0, .int 0, .int 0, .null, .null, .null, .null, .null, .null, .null, .null, .null, .int 0, .int 0, .int 0, .int 0, .null, .null, .null, .null, .null, .null] j := by decide +kernel
theorem wo_RX7_1 : Cond.methodLink RX7 1 objectInit ∈ GW := GW_at 132 (by decide +kernel) (by decide +kernel)
theorem wf_RX7_9 : Cond.fieldLink RX7 9 (TX7 0).1 (TX7 0).2.1 (TX7 0).2.2.1 ∈ GW := GW_at 414 (by decide +kernel) (by decide +kernel)
theorem wk_RX7_13 : Cond.classLink RX7 13 RX3 ∈ GW := GW_at 135 (by decide +kernel) (by decide +kernel)
theorem wf_RX7_16 : Cond.fieldLink RX7 16 (TX7 2).1 (TX7 2).2.1 (TX7 2).2.2.1 ∈ GW := GW_at 416 (by decide +kernel) (by decide +kernel)
theorem wf_RX7_20 : Cond.fieldLink RX7 20 (TX7 3).1 (TX7 3).2.1 (TX7 3).2.2.1 ∈ GW := GW_at 417 (by decide +kernel) (by decide +kernel)
theorem wk_RX7_23 : Cond.classLink RX7 23 RX5 ∈ GW := GW_at 251 (by decide +kernel) (by decide +kernel)
theorem wl_RX7_25 : Cond.methodLink RX7 25 yX5_init ∈ GW := GW_at 253 (by decide +kernel) (by decide +kernel)
theorem wf_RX7_28 : Cond.fieldLink RX7 28 (TX7 4).1 (TX7 4).2.1 (TX7 4).2.2.1 ∈ GW := GW_at 418 (by decide +kernel) (by decide +kernel)
theorem wk_RX7_32 : Cond.classLink RX7 32 RX0 ∈ GW := GW_at 284 (by decide +kernel) (by decide +kernel)
theorem wf_RX7_35 : Cond.fieldLink RX7 35 (TX7 5).1 (TX7 5).2.1 (TX7 5).2.2.1 ∈ GW := GW_at 419 (by decide +kernel) (by decide +kernel)
theorem wf_RX7_39 : Cond.fieldLink RX7 39 (TX7 6).1 (TX7 6).2.1 (TX7 6).2.2.1 ∈ GW := GW_at 420 (by decide +kernel) (by decide +kernel)
theorem wk_RX7_42 : Cond.classLink RX7 42 RX1 ∈ GW := GW_at 360 (by decide +kernel) (by decide +kernel)
theorem wl_RX7_44 : Cond.methodLink RX7 44 yX1_init ∈ GW := GW_at 362 (by decide +kernel) (by decide +kernel)
theorem wf_RX7_47 : Cond.fieldLink RX7 47 (TX7 8).1 (TX7 8).2.1 (TX7 8).2.2.1 ∈ GW := GW_at 422 (by decide +kernel) (by decide +kernel)
theorem wf_RX7_51 : Cond.fieldLink RX7 51 (TX7 9).1 (TX7 9).2.1 (TX7 9).2.2.1 ∈ GW := GW_at 423 (by decide +kernel) (by decide +kernel)
theorem wf_RX7_54 : Cond.fieldLink RX7 54 (TX7 11).1 (TX7 11).2.1 (TX7 11).2.2.1 ∈ GW := GW_at 425 (by decide +kernel) (by decide +kernel)
theorem wo_RX8_3 : Cond.methodLink RX8 3 objectInit ∈ GW := GW_at 1211 (by decide +kernel) (by decide +kernel)
theorem wk_RX8_9 : Cond.classLink RX8 9 "java/lang/String" ∈ GW := GW_at 1212 (by decide +kernel) (by decide +kernel)
theorem wf_RX8_17 : Cond.fieldLink RX8 17 (TX8 0).1 (TX8 0).2.1 (TX8 0).2.2.1 ∈ GW := GW_at 1222 (by decide +kernel) (by decide +kernel)
theorem wf_RX8_31 : Cond.fieldLink RX8 31 (TX8 1).1 (TX8 1).2.1 (TX8 1).2.2.1 ∈ GW := GW_at 1223 (by decide +kernel) (by decide +kernel)
theorem wf_RX8_34 : Cond.fieldLink RX8 34 (TX8 3).1 (TX8 3).2.1 (TX8 3).2.2.1 ∈ GW := GW_at 1225 (by decide +kernel) (by decide +kernel)
theorem wf_RX8_38 : Cond.fieldLink RX8 38 (TX8 4).1 (TX8 4).2.1 (TX8 4).2.2.1 ∈ GW := GW_at 1226 (by decide +kernel) (by decide +kernel)
theorem wf_RX8_41 : Cond.fieldLink RX8 41 (TX8 5).1 (TX8 5).2.1 (TX8 5).2.2.1 ∈ GW := GW_at 1227 (by decide +kernel) (by decide +kernel)
theorem wf_RX8_44 : Cond.fieldLink RX8 44 (TX8 6).1 (TX8 6).2.1 (TX8 6).2.2.1 ∈ GW := GW_at 1228 (by decide +kernel) (by decide +kernel)
theorem wf_RX8_47 : Cond.fieldLink RX8 47 (TX8 7).1 (TX8 7).2.1 (TX8 7).2.2.1 ∈ GW := GW_at 1229 (by decide +kernel) (by decide +kernel)
theorem wf_RX8_49 : Cond.fieldLink RX8 49 (TX8 8).1 (TX8 8).2.1 (TX8 8).2.2.1 ∈ GW := GW_at 1230 (by decide +kernel) (by decide +kernel)
theorem wf_RX8_52 : Cond.fieldLink RX8 52 (TX8 9).1 (TX8 9).2.1 (TX8 9).2.2.1 ∈ GW := GW_at 1231 (by decide +kernel) (by decide +kernel)
theorem wf_RX8_55 : Cond.fieldLink RX8 55 (TX8 10).1 (TX8 10).2.1 (TX8 10).2.2.1 ∈ GW := GW_at 1232 (by decide +kernel) (by decide +kernel)
theorem wf_RX8_57 : Cond.fieldLink RX8 57 (TX8 11).1 (TX8 11).2.1 (TX8 11).2.2.1 ∈ GW := GW_at 1233 (by decide +kernel) (by decide +kernel)
theorem wf_RX8_60 : Cond.fieldLink RX8 60 (TX8 12).1 (TX8 12).2.1 (TX8 12).2.2.1 ∈ GW := GW_at 1234 (by decide +kernel) (by decide +kernel)
theorem wf_RX8_63 : Cond.fieldLink RX8 63 (TX8 13).1 (TX8 13).2.1 (TX8 13).2.2.1 ∈ GW := GW_at 1235 (by decide +kernel) (by decide +kernel)
theorem wf_RX8_66 : Cond.fieldLink RX8 66 (TX8 23).1 (TX8 23).2.1 (TX8 23).2.2.1 ∈ GW := GW_at 1245 (by decide +kernel) (by decide +kernel)
theorem wf_RX8_70 : Cond.fieldLink RX8 70 (TX8 24).1 (TX8 24).2.1 (TX8 24).2.2.1 ∈ GW := GW_at 1246 (by decide +kernel) (by decide +kernel)
theorem wf_RX8_73 : Cond.fieldLink RX8 73 (TX8 25).1 (TX8 25).2.1 (TX8 25).2.2.1 ∈ GW := GW_at 1247 (by decide +kernel) (by decide +kernel)
theorem wf_RX8_76 : Cond.fieldLink RX8 76 (TX8 26).1 (TX8 26).2.1 (TX8 26).2.2.1 ∈ GW := GW_at 1248 (by decide +kernel) (by decide +kernel)
theorem wf_RX8_79 : Cond.fieldLink RX8 79 (TX8 27).1 (TX8 27).2.1 (TX8 27).2.2.1 ∈ GW := GW_at 1249 (by decide +kernel) (by decide +kernel)
theorem wf_RX8_82 : Cond.fieldLink RX8 82 (TX8 28).1 (TX8 28).2.1 (TX8 28).2.2.1 ∈ GW := GW_at 1250 (by decide +kernel) (by decide +kernel)
theorem wf_RX8_85 : Cond.fieldLink RX8 85 (TX8 35).1 (TX8 35).2.1 (TX8 35).2.2.1 ∈ GW := GW_at 1257 (by decide +kernel) (by decide +kernel)
theorem wf_RX8_88 : Cond.fieldLink RX8 88 (TX8 36).1 (TX8 36).2.1 (TX8 36).2.2.1 ∈ GW := GW_at 1258 (by decide +kernel) (by decide +kernel)
theorem wf_RX8_91 : Cond.fieldLink RX8 91 (TX8 37).1 (TX8 37).2.1 (TX8 37).2.2.1 ∈ GW := GW_at 1259 (by decide +kernel) (by decide +kernel)
theorem wf_RX8_94 : Cond.fieldLink RX8 94 (TX8 38).1 (TX8 38).2.1 (TX8 38).2.2.1 ∈ GW := GW_at 1260 (by decide +kernel) (by decide +kernel)
theorem wf_RX8_97 : Cond.fieldLink RX8 97 (TX8 39).1 (TX8 39).2.1 (TX8 39).2.2.1 ∈ GW := GW_at 1261 (by decide +kernel) (by decide +kernel)
theorem wf_RX8_100 : Cond.fieldLink RX8 100 (TX8 40).1 (TX8 40).2.1 (TX8 40).2.2.1 ∈ GW := GW_at 1262 (by decide +kernel) (by decide +kernel)
theorem wf_RX8_103 : Cond.fieldLink RX8 103 (TX8 43).1 (TX8 43).2.1 (TX8 43).2.2.1 ∈ GW := GW_at 1265 (by decide +kernel) (by decide +kernel)
theorem wf_RX8_106 : Cond.fieldLink RX8 106 (TX8 44).1 (TX8 44).2.1 (TX8 44).2.2.1 ∈ GW := GW_at 1266 (by decide +kernel) (by decide +kernel)
theorem wf_RX8_108 : Cond.fieldLink RX8 108 (TX8 45).1 (TX8 45).2.1 (TX8 45).2.2.1 ∈ GW := GW_at 1267 (by decide +kernel) (by decide +kernel)
theorem wf_RX8_111 : Cond.fieldLink RX8 111 (TX8 46).1 (TX8 46).2.1 (TX8 46).2.2.1 ∈ GW := GW_at 1268 (by decide +kernel) (by decide +kernel)
theorem wf_RX8_114 : Cond.fieldLink RX8 114 (TX8 47).1 (TX8 47).2.1 (TX8 47).2.2.1 ∈ GW := GW_at 1269 (by decide +kernel) (by decide +kernel)
theorem wf_RX8_117 : Cond.fieldLink RX8 117 (TX8 48).1 (TX8 48).2.1 (TX8 48).2.2.1 ∈ GW := GW_at 1270 (by decide +kernel) (by decide +kernel)
theorem wf_RX8_120 : Cond.fieldLink RX8 120 (TX8 49).1 (TX8 49).2.1 (TX8 49).2.2.1 ∈ GW := GW_at 1271 (by decide +kernel) (by decide +kernel)
theorem wf_RX8_123 : Cond.fieldLink RX8 123 (TX8 50).1 (TX8 50).2.1 (TX8 50).2.2.1 ∈ GW := GW_at 1272 (by decide +kernel) (by decide +kernel)
theorem wf_RX8_126 : Cond.fieldLink RX8 126 (TX8 51).1 (TX8 51).2.1 (TX8 51).2.2.1 ∈ GW := GW_at 1273 (by decide +kernel) (by decide +kernel)
theorem wf_RX8_129 : Cond.fieldLink RX8 129 (TX8 52).1 (TX8 52).2.1 (TX8 52).2.2.1 ∈ GW := GW_at 1274 (by decide +kernel) (by decide +kernel)
theorem wf_RX8_132 : Cond.fieldLink RX8 132 (TX8 57).1 (TX8 57).2.1 (TX8 57).2.2.1 ∈ GW := GW_at 1279 (by decide +kernel) (by decide +kernel)
theorem wf_RX8_135 : Cond.fieldLink RX8 135 (TX8 58).1 (TX8 58).2.1 (TX8 58).2.2.1 ∈ GW := GW_at 1280 (by decide +kernel) (by decide +kernel)
theorem wf_RX8_138 : Cond.fieldLink RX8 138 (TX8 59).1 (TX8 59).2.1 (TX8 59).2.2.1 ∈ GW := GW_at 1281 (by decide +kernel) (by decide +kernel)
theorem wf_RX8_141 : Cond.fieldLink RX8 141 (TX8 60).1 (TX8 60).2.1 (TX8 60).2.2.1 ∈ GW := GW_at 1282 (by decide +kernel) (by decide +kernel)
theorem wf_RX8_144 : Cond.fieldLink RX8 144 (TX8 61).1 (TX8 61).2.1 (TX8 61).2.2.1 ∈ GW := GW_at 1283 (by decide +kernel) (by decide +kernel)
theorem wf_RX8_147 : Cond.fieldLink RX8 147 (TX8 62).1 (TX8 62).2.1 (TX8 62).2.2.1 ∈ GW := GW_at 1284 (by decide +kernel) (by decide +kernel)
def L7 : List Id3 := [(7, 0, 0)] ++ [(47, 0, 0)] ++ (L3 0) ++ (L3 1) ++ (L5) ++ (L0_0) ++ (L0_1) ++ (L1 0) ++ (L1 1)
def L8 : List Id3 := [(8, 0, 0)] ++ [(48, 0, 0)] ++ [(49, 0, 0)] ++ [(50, 0, 0)] ++ [(51, 0, 0)] ++ [(52, 0, 0)] ++ [(53, 0, 0)] ++ [(54, 0, 0)] ++ [(55, 0, 0)] ++ [(56, 0, 0)] ++ [(57, 0, 0)] ++ [(58, 0, 0)] ++ [(59, 0, 0)] ++ [(60, 0, 0)] ++ [(61, 0, 0)] ++ [(62, 0, 0)] ++ [(63, 0, 0)] ++ [(64, 0, 0)] ++ [(65, 0, 0)] ++ [(66, 0, 0)] ++ [(67, 0, 0)] ++ [(68, 0, 0)] ++ [(69, 0, 0)] ++ [(70, 0, 0)] ++ [(71, 0, 0)] ++ [(72, 0, 0)] ++ [(73, 0, 0)] ++ [(74, 0, 0)] ++ [(75, 0, 0)] ++ [(76, 0, 0)] ++ [(77, 0, 0)] ++ [(78, 0, 0)] ++ [(79, 0, 0)] ++ [(80, 0, 0)] ++ [(81, 0, 0)] ++ [(82, 0, 0)] ++ [(83, 0, 0)] ++ [(84, 0, 0)] ++ [(85, 0, 0)]
def A7 (t q1 : Nat) (ad1 ad2 ad3 ad4 ad5 ad6 ad7 : Id3 → Nat) : Id3 → Nat := fun i => if i.1 = 7 then t else if i.1 = 47 then q1 else if i.1 = 5 then ad3 i else if i.1 = 0 ∨ i.1 = 9 ∨ i.1 = 10 then (if i.2.1 = 0 then ad4 i else ad5 i) else if i.1 = 6 ∨ i.1 = 44 ∨ i.1 = 45 ∨ i.1 = 46 then (if i.2.1 < 5 then ad4 i else ad5 i) else if i.1 = 1 ∨ (11 ≤ i.1 ∧ i.1 ≤ 26) then (if i.2.1 = 0 then ad6 i else ad7 i) else (if i.2.1 = 0 then ad1 i else ad2 i)
theorem A7_1 {t q1 : Nat} {ad1 ad2 ad3 ad4 ad5 ad6 ad7 : Id3 → Nat} (i : Id3) (h : ((i.1 == 3 || i.1 == 4 || (Nat.ble 27 i.1 && Nat.ble i.1 43)) && i.2.1 == 0) = true) : A7 t q1 ad1 ad2 ad3 ad4 ad5 ad6 ad7 i = ad1 i := by
  obtain ⟨c, z, r⟩ := i
  simp only [Bool.or_eq_true, Bool.and_eq_true, beq_iff_eq, Nat.ble_eq, Nat.blt_eq] at h
  simp only [A7]
  (repeat (first | rw [if_neg (by omega)] | rw [if_pos (by omega)]))
theorem A7_2 {t q1 : Nat} {ad1 ad2 ad3 ad4 ad5 ad6 ad7 : Id3 → Nat} (i : Id3) (h : ((i.1 == 3 || i.1 == 4 || (Nat.ble 27 i.1 && Nat.ble i.1 43)) && i.2.1 == 1) = true) : A7 t q1 ad1 ad2 ad3 ad4 ad5 ad6 ad7 i = ad2 i := by
  obtain ⟨c, z, r⟩ := i
  simp only [Bool.or_eq_true, Bool.and_eq_true, beq_iff_eq, Nat.ble_eq, Nat.blt_eq] at h
  simp only [A7]
  (repeat (first | rw [if_neg (by omega)] | rw [if_pos (by omega)]))
theorem A7_4 {t q1 : Nat} {ad1 ad2 ad3 ad4 ad5 ad6 ad7 : Id3 → Nat} (i : Id3) (h : (((i.1 == 0 || i.1 == 9 || i.1 == 10) && i.2.1 == 0) || ((i.1 == 6 || i.1 == 44 || i.1 == 45 || i.1 == 46) && Nat.blt i.2.1 5)) = true) : A7 t q1 ad1 ad2 ad3 ad4 ad5 ad6 ad7 i = ad4 i := by
  obtain ⟨c, z, r⟩ := i
  simp only [Bool.or_eq_true, Bool.and_eq_true, beq_iff_eq, Nat.ble_eq, Nat.blt_eq] at h
  simp only [A7]
  rcases h with h | h <;> (repeat (first | rw [if_neg (by omega)] | rw [if_pos (by omega)]))
theorem A7_5 {t q1 : Nat} {ad1 ad2 ad3 ad4 ad5 ad6 ad7 : Id3 → Nat} (i : Id3) (h : (((i.1 == 0 || i.1 == 9 || i.1 == 10) && i.2.1 == 1) || ((i.1 == 6 || i.1 == 44 || i.1 == 45 || i.1 == 46) && Nat.ble 5 i.2.1)) = true) : A7 t q1 ad1 ad2 ad3 ad4 ad5 ad6 ad7 i = ad5 i := by
  obtain ⟨c, z, r⟩ := i
  simp only [Bool.or_eq_true, Bool.and_eq_true, beq_iff_eq, Nat.ble_eq, Nat.blt_eq] at h
  simp only [A7]
  rcases h with h | h <;> (repeat (first | rw [if_neg (by omega)] | rw [if_pos (by omega)]))
theorem A7_6 {t q1 : Nat} {ad1 ad2 ad3 ad4 ad5 ad6 ad7 : Id3 → Nat} (i : Id3) (h : ((i.1 == 1 || (Nat.ble 11 i.1 && Nat.ble i.1 26)) && i.2.1 == 0) = true) : A7 t q1 ad1 ad2 ad3 ad4 ad5 ad6 ad7 i = ad6 i := by
  obtain ⟨c, z, r⟩ := i
  simp only [Bool.or_eq_true, Bool.and_eq_true, beq_iff_eq, Nat.ble_eq, Nat.blt_eq] at h
  simp only [A7]
  (repeat (first | rw [if_neg (by omega)] | rw [if_pos (by omega)]))
theorem A7_7 {t q1 : Nat} {ad1 ad2 ad3 ad4 ad5 ad6 ad7 : Id3 → Nat} (i : Id3) (h : ((i.1 == 1 || (Nat.ble 11 i.1 && Nat.ble i.1 26)) && i.2.1 == 1) = true) : A7 t q1 ad1 ad2 ad3 ad4 ad5 ad6 ad7 i = ad7 i := by
  obtain ⟨c, z, r⟩ := i
  simp only [Bool.or_eq_true, Bool.and_eq_true, beq_iff_eq, Nat.ble_eq, Nat.blt_eq] at h
  simp only [A7]
  (repeat (first | rw [if_neg (by omega)] | rw [if_pos (by omega)]))
theorem e7 {t q1 : Nat} {ad1 ad2 ad3 ad4 ad5 ad6 ad7 : Id3 → Nat} {cy : Nat → ClassId} (e31 : ad3 (47, 0, 0) = q1) (e32 : ad3 (3, 1, 0) = ad2 (3, 1, 0)) (e61 : ad6 (3, 0, 0) = ad1 (3, 0, 0)) (e62 : ad6 (0, 0, 0) = ad4 (0, 0, 0)) (e71 : ad7 (3, 0, 0) = ad1 (3, 0, 0)) (e72 : ad7 (0, 0, 0) = ad4 (0, 0, 0)) : (t, .inr (7, [.ref q1, .int 0, .ref (ad1 (3, 0, 0)), .ref (ad2 (3, 1, 0)), .ref (ad3 (5, 0, 0)), .ref (ad4 (0, 0, 0)), .ref (ad5 (0, 1, 0)), .int 0, .ref (ad6 (1, 0, 0)), .ref (ad7 (1, 1, 0)), .int 0, .int (-1)])) :: (((((((([] ++ [(q1, .inl (cy 1, 600, .inl (fun _ => 0)))]) ++ cw ad1 cy (L3 0)) ++ cw ad2 cy (L3 1)) ++ cw ad3 cy (L5)) ++ cw ad4 cy (L0_0)) ++ cw ad5 cy (L0_1)) ++ cw ad6 cy (L1 0)) ++ cw ad7 cy (L1 1)) = cw (A7 t q1 ad1 ad2 ad3 ad4 ad5 ad6 ad7) cy L7 := by
  have k1 : cw (A7 t q1 ad1 ad2 ad3 ad4 ad5 ad6 ad7) cy (L3 0) = cw ad1 cy (L3 0) := cw_congr (fun i => (i.1 == 3 || i.1 == 4 || (Nat.ble 27 i.1 && Nat.ble i.1 43)) && i.2.1 == 0) (fun c z => (c == 3 || c == 4 || (Nat.ble 27 c && Nat.ble c 43)) && z == 0) A7_1 (fun c z k h => A7_1 (c, z, k) h) (fun h => absurd h (by decide)) cy _ (by decide +kernel)
  have k2 : cw (A7 t q1 ad1 ad2 ad3 ad4 ad5 ad6 ad7) cy (L3 1) = cw ad2 cy (L3 1) := cw_congr (fun i => (i.1 == 3 || i.1 == 4 || (Nat.ble 27 i.1 && Nat.ble i.1 43)) && i.2.1 == 1) (fun c z => (c == 3 || c == 4 || (Nat.ble 27 c && Nat.ble c 43)) && z == 1) A7_2 (fun c z k h => A7_2 (c, z, k) h) (fun h => absurd h (by decide)) cy _ (by decide +kernel)
  have k3 : cw (A7 t q1 ad1 ad2 ad3 ad4 ad5 ad6 ad7) cy L5 = cw ad3 cy L5 := cw_congr (fun i => i == (5, 0, 0) || i == (47, 0, 0) || i == (3, 1, 0)) (fun _ _ => false) (fun i h => by
    simp only [Bool.or_eq_true, beq_iff_eq] at h
    rcases h with (rfl | rfl) | rfl
    · rfl
    · rw [e31]; rfl
    · rw [e32]; rfl) (fun c z k h => by cases h) (fun h => by cases h) cy _ (by decide +kernel)
  have k4 : cw (A7 t q1 ad1 ad2 ad3 ad4 ad5 ad6 ad7) cy L0_0 = cw ad4 cy L0_0 := cw_congr (fun i => ((i.1 == 0 || i.1 == 9 || i.1 == 10) && i.2.1 == 0) || ((i.1 == 6 || i.1 == 44 || i.1 == 45 || i.1 == 46) && Nat.blt i.2.1 5)) (fun _ _ => false) A7_4 (fun c z k h => by cases h) (fun h => by cases h) cy _ (by decide +kernel)
  have k5 : cw (A7 t q1 ad1 ad2 ad3 ad4 ad5 ad6 ad7) cy L0_1 = cw ad5 cy L0_1 := cw_congr (fun i => ((i.1 == 0 || i.1 == 9 || i.1 == 10) && i.2.1 == 1) || ((i.1 == 6 || i.1 == 44 || i.1 == 45 || i.1 == 46) && Nat.ble 5 i.2.1)) (fun _ _ => false) A7_5 (fun c z k h => by cases h) (fun h => by cases h) cy _ (by decide +kernel)
  have k6 : cw (A7 t q1 ad1 ad2 ad3 ad4 ad5 ad6 ad7) cy (L1 0) = cw ad6 cy (L1 0) := cw_congr (fun i => i == (3, 0, 0) || i == (0, 0, 0) || ((i.1 == 1 || (Nat.ble 11 i.1 && Nat.ble i.1 26)) && i.2.1 == 0)) (fun c z => (Nat.ble 11 c && Nat.ble c 26) && z == 0) (fun i h => by
    simp only [Bool.or_eq_true, Bool.and_eq_true, beq_iff_eq] at h
    rcases h with (rfl | rfl) | h
    · rw [e61]; rfl
    · rw [e62]; rfl
    · exact A7_6 i (by simp only [Bool.or_eq_true, Bool.and_eq_true, beq_iff_eq]; exact h)) (fun c z k h => A7_6 (c, z, k) (by simp only [Bool.or_eq_true, Bool.and_eq_true, beq_iff_eq] at h ⊢; exact ⟨Or.inr h.1, h.2⟩)) (fun h => absurd h (by decide)) cy _ (by decide +kernel)
  have k7 : cw (A7 t q1 ad1 ad2 ad3 ad4 ad5 ad6 ad7) cy (L1 1) = cw ad7 cy (L1 1) := cw_congr (fun i => i == (3, 0, 0) || i == (0, 0, 0) || ((i.1 == 1 || (Nat.ble 11 i.1 && Nat.ble i.1 26)) && i.2.1 == 1)) (fun c z => (Nat.ble 11 c && Nat.ble c 26) && z == 1) (fun i h => by
    simp only [Bool.or_eq_true, Bool.and_eq_true, beq_iff_eq] at h
    rcases h with (rfl | rfl) | h
    · rw [e71]; rfl
    · rw [e72]; rfl
    · exact A7_7 i (by simp only [Bool.or_eq_true, Bool.and_eq_true, beq_iff_eq]; exact h)) (fun c z k h => A7_7 (c, z, k) (by simp only [Bool.or_eq_true, Bool.and_eq_true, beq_iff_eq] at h ⊢; exact ⟨Or.inr h.1, h.2⟩)) (fun h => absurd h (by decide)) cy _ (by decide +kernel)
  unfold L7
  simp only [cw_app, k1, k2, k3, k4, k5, k6, k7]
  generalize cw ad1 cy (L3 0) = w1
  generalize cw ad2 cy (L3 1) = w2
  generalize cw ad3 cy L5 = w3
  generalize cw ad4 cy L0_0 = w4
  generalize cw ad5 cy L0_1 = w5
  generalize cw ad6 cy (L1 0) = w6
  generalize cw ad7 cy (L1 1) = w7
  simp only [List.append_assoc, List.cons_append, List.nil_append]
  rfl
theorem m_X7_init {pre : (Nat → ClassId) → va_W} {t : Nat} : CMet yX7_init cX7_init 1 3 1000 [.ref t] (fun cy => pre cy ++ [(t, .inr (7, [.null, .int 0, .null, .null, .null, .null, .null, .int 0, .null, .null, .int 0, .int 0]))]) (fun cy ad0 ws1 => ∃ ad : Id3 → Nat, ad (7, 0, 0) = t ∧ ws1 = pre cy ++ cw ad cy (L7)) 
  := c_meth (by decide) rfl rfl (Nat.le_of_ble_eq_true rfl) rfl (fun X Q E => by
  refine c_aload (pc := 0) 0 dX7_init_0 rfl ?_
  refine c_obj (pc := 1) wo_RX7_1 (by decide) (Nat.le_of_ble_eq_true rfl) dX7_init_1 ?_
  refine c_aload (pc := 4) 0 dX7_init_4 rfl ?_
  refine c_sipush (pc := 5) 600 dX7_init_5 (by decide) ?_
  refine c_newB0 (pc := 8) (600) dX7_init_8 (by decide) (by decide) (by decide) (by decide) (by decide) (fun q1 => ?_)
  refine c_putF0 (pc := 10) (j := 0) (fs' := [.ref q1, .int 0, .null, .null, .null, .null, .null, .int 0, .null, .null, .int 0, .int 0]) clX7 (by decide) wf_RX7_9 rfl rfl rfl rfl rfl rfl dX7_init_10 ?_
  refine c_aload (pc := 13) 0 dX7_init_13 rfl ?_
  refine c_newO0 (pc := 14) [.int 0, .int 0, .int 0, .int 0, .null, .null, .null, .int 0, .null, .null, .null, .null, .null, .int 0, .null, .null] clX3 wk_RX7_13 wi_3 wN_X3 df_3 dX7_init_14 (by decide) (by decide) (fun q2 => ?_)
  refine c_dup (pc := 17) dX7_init_17 rfl ?_
  refine c_call (pc := 18) (na := 0) (a := q2) (As := []) (m_X3_init (z := 0) (pre := (fun cy => pre cy ++ (t, .inr (7, [.ref q1, .int 0, .null, .null, .null, .null, .null, .int 0, .null, .null, .int 0, .int 0])) :: ([] ++ [(q1, .inl (cy 1, 600, .inl (fun _ => 0)))])))) wN_X3 wI_X3_init wC_X3_init rfl (Or.inr (fun _ h => h.1)) (by decide +kernel) (by decide) dX7_init_18 rfl (by decide) (Nat.le_of_ble_eq_true rfl) (by decide) (by decide) rfl (ap9 _ _ _ _) ?_
  rintro _ ⟨ad1, e1_0, rfl⟩
  subst e1_0
  rw [← ap9]
  refine c_put0 (pc := 21) (j := 2) (fs' := [.ref q1, .int 0, .ref (ad1 (3, 0, 0)), .null, .null, .null, .null, .int 0, .null, .null, .int 0, .int 0]) clX7 (by decide) wf_RX7_16 rfl rfl rfl rfl rfl dX7_init_21 ?_
  refine c_aload (pc := 24) 0 dX7_init_24 rfl ?_
  refine c_newO0 (pc := 25) [.int 0, .int 0, .int 0, .int 0, .null, .null, .null, .int 0, .null, .null, .null, .null, .null, .int 0, .null, .null] clX3 wk_RX7_13 wi_3 wN_X3 df_3 dX7_init_25 (by decide) (by decide) (fun q3 => ?_)
  refine c_dup (pc := 28) dX7_init_28 rfl ?_
  refine c_call (pc := 29) (na := 0) (a := q3) (As := []) (m_X3_init (z := 1) (pre := (fun cy => pre cy ++ (t, .inr (7, [.ref q1, .int 0, .ref (ad1 (3, 0, 0)), .null, .null, .null, .null, .int 0, .null, .null, .int 0, .int 0])) :: (([] ++ [(q1, .inl (cy 1, 600, .inl (fun _ => 0)))]) ++ cw ad1 cy (L3 0))))) wN_X3 wI_X3_init wC_X3_init rfl (Or.inr (fun _ h => h.1)) (by decide +kernel) (by decide) dX7_init_29 rfl (by decide) (Nat.le_of_ble_eq_true rfl) (by decide) (by decide) rfl (ap9 _ _ _ _) ?_
  rintro _ ⟨ad2, e2_0, rfl⟩
  subst e2_0
  rw [← ap9]
  refine c_put0 (pc := 32) (j := 3) (fs' := [.ref q1, .int 0, .ref (ad1 (3, 0, 0)), .ref (ad2 (3, 1, 0)), .null, .null, .null, .int 0, .null, .null, .int 0, .int 0]) clX7 (by decide) wf_RX7_20 rfl rfl rfl rfl rfl dX7_init_32 ?_
  refine c_aload (pc := 35) 0 dX7_init_35 rfl ?_
  refine c_newO0 (pc := 36) [.int 0, .int 0, .null, .int 0, .null, .int 0, .int 0, .int 0] clX5 wk_RX7_23 wi_5 wN_X5 df_5 dX7_init_36 (by decide) (by decide) (fun q4 => ?_)
  refine c_dup (pc := 39) dX7_init_39 rfl ?_
  refine c_aload (pc := 40) 0 dX7_init_40 rfl ?_
  refine c_get0 (pc := 41) (j := 0) clX7 (by decide) wf_RX7_9 rfl dX7_init_41 ?_
  refine c_aload (pc := 44) 0 dX7_init_44 rfl ?_
  refine c_get0 (pc := 45) (j := 3) clX7 (by decide) wf_RX7_20 rfl dX7_init_45 ?_
  refine c_call (pc := 48) (na := 2) (a := q4) (As := [.ref q1, .ref (ad2 (3, 1, 0))]) (m_X5_init (pre := (fun cy => pre cy ++ (t, .inr (7, [.ref q1, .int 0, .ref (ad1 (3, 0, 0)), .ref (ad2 (3, 1, 0)), .null, .null, .null, .int 0, .null, .null, .int 0, .int 0])) :: ((([] ++ [(q1, .inl (cy 1, 600, .inl (fun _ => 0)))]) ++ cw ad1 cy (L3 0)) ++ cw ad2 cy (L3 1))))) wN_X5 wI_X5_init wC_X5_init rfl (Or.inl wl_RX7_25) (by decide +kernel) (by decide) dX7_init_48 rfl (by decide) (Nat.le_of_ble_eq_true rfl) (by decide) (by decide) rfl (ap9 _ _ _ _) ?_
  rintro _ ⟨ad3, e3_0, e3_1, e3_2, rfl⟩
  subst e3_0
  rw [← ap9]
  refine c_putF0 (pc := 51) (j := 4) (fs' := [.ref q1, .int 0, .ref (ad1 (3, 0, 0)), .ref (ad2 (3, 1, 0)), .ref (ad3 (5, 0, 0)), .null, .null, .int 0, .null, .null, .int 0, .int 0]) clX7 (by decide) wf_RX7_28 rfl rfl rfl rfl rfl rfl dX7_init_51 ?_
  refine c_aload (pc := 54) 0 dX7_init_54 rfl ?_
  refine c_newO0 (pc := 55) [.null, .int 0, .null, .null, .null, .null, .null, .null] clX0 wk_RX7_32 wi_0 wN_X0 df_0 dX7_init_55 (by decide) (by decide) (fun q5 => ?_)
  refine c_dup (pc := 58) dX7_init_58 rfl ?_
  refine c_call (pc := 59) (na := 0) (a := q5) (As := []) (m_X0_init_0 (pre := (fun cy => pre cy ++ (t, .inr (7, [.ref q1, .int 0, .ref (ad1 (3, 0, 0)), .ref (ad2 (3, 1, 0)), .ref (ad3 (5, 0, 0)), .null, .null, .int 0, .null, .null, .int 0, .int 0])) :: (((([] ++ [(q1, .inl (cy 1, 600, .inl (fun _ => 0)))]) ++ cw ad1 cy (L3 0)) ++ cw ad2 cy (L3 1)) ++ cw ad3 cy (L5))))) wN_X0 wI_X0_init wC_X0_init rfl (Or.inr (fun _ h => h.2.2.1)) (by decide +kernel) (by decide) dX7_init_59 rfl (by decide) (Nat.le_of_ble_eq_true rfl) (by decide) (by decide) rfl (ap9 _ _ _ _) ?_
  rintro _ ⟨ad4, e4_0, rfl⟩
  subst e4_0
  rw [← ap9]
  refine c_putF0 (pc := 62) (j := 5) (fs' := [.ref q1, .int 0, .ref (ad1 (3, 0, 0)), .ref (ad2 (3, 1, 0)), .ref (ad3 (5, 0, 0)), .ref (ad4 (0, 0, 0)), .null, .int 0, .null, .null, .int 0, .int 0]) clX7 (by decide) wf_RX7_35 rfl rfl rfl rfl rfl rfl dX7_init_62 ?_
  refine c_aload (pc := 65) 0 dX7_init_65 rfl ?_
  refine c_newO0 (pc := 66) [.null, .int 0, .null, .null, .null, .null, .null, .null] clX0 wk_RX7_32 wi_0 wN_X0 df_0 dX7_init_66 (by decide) (by decide) (fun q6 => ?_)
  refine c_dup (pc := 69) dX7_init_69 rfl ?_
  refine c_call (pc := 70) (na := 0) (a := q6) (As := []) (m_X0_init_1 (pre := (fun cy => pre cy ++ (t, .inr (7, [.ref q1, .int 0, .ref (ad1 (3, 0, 0)), .ref (ad2 (3, 1, 0)), .ref (ad3 (5, 0, 0)), .ref (ad4 (0, 0, 0)), .null, .int 0, .null, .null, .int 0, .int 0])) :: ((((([] ++ [(q1, .inl (cy 1, 600, .inl (fun _ => 0)))]) ++ cw ad1 cy (L3 0)) ++ cw ad2 cy (L3 1)) ++ cw ad3 cy (L5)) ++ cw ad4 cy (L0_0))))) wN_X0 wI_X0_init wC_X0_init rfl (Or.inr (fun _ h => h.2.2.1)) (by decide +kernel) (by decide) dX7_init_70 rfl (by decide) (Nat.le_of_ble_eq_true rfl) (by decide) (by decide) rfl (ap9 _ _ _ _) ?_
  rintro _ ⟨ad5, e5_0, rfl⟩
  subst e5_0
  rw [← ap9]
  refine c_putF0 (pc := 73) (j := 6) (fs' := [.ref q1, .int 0, .ref (ad1 (3, 0, 0)), .ref (ad2 (3, 1, 0)), .ref (ad3 (5, 0, 0)), .ref (ad4 (0, 0, 0)), .ref (ad5 (0, 1, 0)), .int 0, .null, .null, .int 0, .int 0]) clX7 (by decide) wf_RX7_39 rfl rfl rfl rfl rfl rfl dX7_init_73 ?_
  refine c_aload (pc := 76) 0 dX7_init_76 rfl ?_
  refine c_newO0 (pc := 77) [.null, .null, .int 0, .null, .null, .null, .null, .null, .null, .null, .null, .null, .null] clX1 wk_RX7_42 wi_1 wN_X1 df_1 dX7_init_77 (by decide) (by decide) (fun q7 => ?_)
  refine c_dup (pc := 80) dX7_init_80 rfl ?_
  refine c_aload (pc := 81) 0 dX7_init_81 rfl ?_
  refine c_get0 (pc := 82) (j := 2) clX7 (by decide) wf_RX7_16 rfl dX7_init_82 ?_
  refine c_aload (pc := 85) 0 dX7_init_85 rfl ?_
  refine c_get0 (pc := 86) (j := 5) clX7 (by decide) wf_RX7_35 rfl dX7_init_86 ?_
  refine c_call (pc := 89) (na := 2) (a := q7) (As := [.ref (ad1 (3, 0, 0)), .ref (ad4 (0, 0, 0))]) (m_X1_init (z := 0) (pre := (fun cy => pre cy ++ (t, .inr (7, [.ref q1, .int 0, .ref (ad1 (3, 0, 0)), .ref (ad2 (3, 1, 0)), .ref (ad3 (5, 0, 0)), .ref (ad4 (0, 0, 0)), .ref (ad5 (0, 1, 0)), .int 0, .null, .null, .int 0, .int 0])) :: (((((([] ++ [(q1, .inl (cy 1, 600, .inl (fun _ => 0)))]) ++ cw ad1 cy (L3 0)) ++ cw ad2 cy (L3 1)) ++ cw ad3 cy (L5)) ++ cw ad4 cy (L0_0)) ++ cw ad5 cy (L0_1))))) wN_X1 wI_X1_init wC_X1_init rfl (Or.inl wl_RX7_44) (by decide +kernel) (by decide) dX7_init_89 rfl (by decide) (Nat.le_of_ble_eq_true rfl) (by decide) (by decide) rfl (ap9 _ _ _ _) ?_
  rintro _ ⟨ad6, e6_0, e6_1, e6_2, rfl⟩
  subst e6_0
  rw [← ap9]
  refine c_putF0 (pc := 92) (j := 8) (fs' := [.ref q1, .int 0, .ref (ad1 (3, 0, 0)), .ref (ad2 (3, 1, 0)), .ref (ad3 (5, 0, 0)), .ref (ad4 (0, 0, 0)), .ref (ad5 (0, 1, 0)), .int 0, .ref (ad6 (1, 0, 0)), .null, .int 0, .int 0]) clX7 (by decide) wf_RX7_47 rfl rfl rfl rfl rfl rfl dX7_init_92 ?_
  refine c_aload (pc := 95) 0 dX7_init_95 rfl ?_
  refine c_newO0 (pc := 96) [.null, .null, .int 0, .null, .null, .null, .null, .null, .null, .null, .null, .null, .null] clX1 wk_RX7_42 wi_1 wN_X1 df_1 dX7_init_96 (by decide) (by decide) (fun q8 => ?_)
  refine c_dup (pc := 99) dX7_init_99 rfl ?_
  refine c_aload (pc := 100) 0 dX7_init_100 rfl ?_
  refine c_get0 (pc := 101) (j := 2) clX7 (by decide) wf_RX7_16 rfl dX7_init_101 ?_
  refine c_aload (pc := 104) 0 dX7_init_104 rfl ?_
  refine c_get0 (pc := 105) (j := 5) clX7 (by decide) wf_RX7_35 rfl dX7_init_105 ?_
  refine c_call (pc := 108) (na := 2) (a := q8) (As := [.ref (ad1 (3, 0, 0)), .ref (ad4 (0, 0, 0))]) (m_X1_init (z := 1) (pre := (fun cy => pre cy ++ (t, .inr (7, [.ref q1, .int 0, .ref (ad1 (3, 0, 0)), .ref (ad2 (3, 1, 0)), .ref (ad3 (5, 0, 0)), .ref (ad4 (0, 0, 0)), .ref (ad5 (0, 1, 0)), .int 0, .ref (ad6 (1, 0, 0)), .null, .int 0, .int 0])) :: ((((((([] ++ [(q1, .inl (cy 1, 600, .inl (fun _ => 0)))]) ++ cw ad1 cy (L3 0)) ++ cw ad2 cy (L3 1)) ++ cw ad3 cy (L5)) ++ cw ad4 cy (L0_0)) ++ cw ad5 cy (L0_1)) ++ cw ad6 cy (L1 0))))) wN_X1 wI_X1_init wC_X1_init rfl (Or.inl wl_RX7_44) (by decide +kernel) (by decide) dX7_init_108 rfl (by decide) (Nat.le_of_ble_eq_true rfl) (by decide) (by decide) rfl (ap9 _ _ _ _) ?_
  rintro _ ⟨ad7, e7_0, e7_1, e7_2, rfl⟩
  subst e7_0
  rw [← ap9]
  refine c_putF0 (pc := 111) (j := 9) (fs' := [.ref q1, .int 0, .ref (ad1 (3, 0, 0)), .ref (ad2 (3, 1, 0)), .ref (ad3 (5, 0, 0)), .ref (ad4 (0, 0, 0)), .ref (ad5 (0, 1, 0)), .int 0, .ref (ad6 (1, 0, 0)), .ref (ad7 (1, 1, 0)), .int 0, .int 0]) clX7 (by decide) wf_RX7_51 rfl rfl rfl rfl rfl rfl dX7_init_111 ?_
  refine c_aload (pc := 114) 0 dX7_init_114 rfl ?_
  refine c_iconst (pc := 115) (-1) dX7_init_115 (by decide) ?_
  refine c_put0 (pc := 116) (j := 11) (fs' := [.ref q1, .int 0, .ref (ad1 (3, 0, 0)), .ref (ad2 (3, 1, 0)), .ref (ad3 (5, 0, 0)), .ref (ad4 (0, 0, 0)), .ref (ad5 (0, 1, 0)), .int 0, .ref (ad6 (1, 0, 0)), .ref (ad7 (1, 1, 0)), .int 0, .int (-1)]) clX7 (by decide) wf_RX7_54 rfl rfl rfl rfl rfl dX7_init_116 ?_
  refine c_ret (pc := 119) dX7_init_119 (by decide) (by decide) ?_ E
  refine ⟨A7 t q1 ad1 ad2 ad3 ad4 ad5 ad6 ad7, rfl, congrArg (pre (cyX X) ++ ·) ?_⟩
  exact e7 e3_1 e3_2 e6_1 e6_2 e7_1 e7_2)
