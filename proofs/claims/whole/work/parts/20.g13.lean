theorem dX8_readCase_0 : decode cX8_readCase 0 = .ok (.aload_n 0, 1) := by decide +kernel
theorem dX8_readCase_1 : decode cX8_readCase 1 = .ok (.iconst 5, 1) := by decide +kernel
theorem dX8_readCase_2 : decode cX8_readCase 2 = .ok (.bipush 6, 2) := by decide +kernel
theorem dX8_readCase_4 : decode cX8_readCase 4 = .ok (.invokevirtual 267, 3) := by decide +kernel
theorem dX8_readCase_7 : decode cX8_readCase 7 = .ok (.ifCond .ne 4, 3) := by decide +kernel
theorem dX8_readCase_10 : decode cX8_readCase 10 = .ok (.return_, 1) := by decide +kernel
theorem dX8_readCase_11 : decode cX8_readCase 11 = .ok (.bipush 9, 2) := by decide +kernel
theorem dX8_readCase_13 : decode cX8_readCase 13 = .ok (.bipush 6, 2) := by decide +kernel
theorem dX8_readCase_15 : decode cX8_readCase 15 = .ok (.aload_n 0, 1) := by decide +kernel
theorem dX8_readCase_16 : decode cX8_readCase 16 = .ok (.getfield 34, 3) := by decide +kernel
theorem dX8_readCase_19 : decode cX8_readCase 19 = .ok (.bipush 12, 2) := by decide +kernel
theorem dX8_readCase_21 : decode cX8_readCase 21 = .ok (.iaload, 1) := by decide +kernel
theorem dX8_readCase_22 : decode cX8_readCase 22 = .ok (.iadd, 1) := by decide +kernel
theorem dX8_readCase_23 : decode cX8_readCase 23 = .ok (.imul, 1) := by decide +kernel
theorem dX8_readCase_24 : decode cX8_readCase 24 = .ok (.istore_n 1, 1) := by decide +kernel
theorem dX8_readCase_25 : decode cX8_readCase 25 = .ok (.iconst 0, 1) := by decide +kernel
theorem dX8_readCase_26 : decode cX8_readCase 26 = .ok (.istore_n 2, 1) := by decide +kernel
theorem dX8_readCase_27 : decode cX8_readCase 27 = .ok (.iload_n 2, 1) := by decide +kernel
theorem dX8_readCase_28 : decode cX8_readCase 28 = .ok (.bipush 9, 2) := by decide +kernel
theorem dX8_readCase_30 : decode cX8_readCase 30 = .ok (.if_icmp .ge 18, 3) := by decide +kernel
theorem dX8_readCase_33 : decode cX8_readCase 33 = .ok (.aload_n 0, 1) := by decide +kernel
theorem dX8_readCase_34 : decode cX8_readCase 34 = .ok (.getfield 55, 3) := by decide +kernel
theorem dX8_readCase_37 : decode cX8_readCase 37 = .ok (.iload_n 1, 1) := by decide +kernel
theorem dX8_readCase_38 : decode cX8_readCase 38 = .ok (.iload_n 2, 1) := by decide +kernel
theorem dX8_readCase_39 : decode cX8_readCase 39 = .ok (.iadd, 1) := by decide +kernel
theorem dX8_readCase_40 : decode cX8_readCase 40 = .ok (.iconst (-1), 1) := by decide +kernel
theorem dX8_readCase_41 : decode cX8_readCase 41 = .ok (.iastore, 1) := by decide +kernel
theorem dX8_readCase_42 : decode cX8_readCase 42 = .ok (.iinc 2 1, 3) := by decide +kernel
theorem dX8_readCase_45 : decode cX8_readCase 45 = .ok (.goto (-18), 3) := by decide +kernel
theorem dX8_readCase_48 : decode cX8_readCase 48 = .ok (.iconst 0, 1) := by decide +kernel
theorem dX8_readCase_49 : decode cX8_readCase 49 = .ok (.istore_n 2, 1) := by decide +kernel
theorem dX8_readCase_50 : decode cX8_readCase 50 = .ok (.aload_n 0, 1) := by decide +kernel
theorem dX8_readCase_51 : decode cX8_readCase 51 = .ok (.getfield 199, 3) := by decide +kernel
theorem dX8_readCase_54 : decode cX8_readCase 54 = .ok (.ifCond .ne 16, 3) := by decide +kernel
theorem dX8_readCase_57 : decode cX8_readCase 57 = .ok (.aload_n 0, 1) := by decide +kernel
theorem dX8_readCase_58 : decode cX8_readCase 58 = .ok (.getfield 173, 3) := by decide +kernel
theorem dX8_readCase_61 : decode cX8_readCase 61 = .ok (.iconst 2, 1) := by decide +kernel
theorem dX8_readCase_62 : decode cX8_readCase 62 = .ok (.if_icmp .eq 8, 3) := by decide +kernel
theorem dX8_readCase_65 : decode cX8_readCase 65 = .ok (.aload_n 0, 1) := by decide +kernel
theorem dX8_readCase_66 : decode cX8_readCase 66 = .ok (.iconst 1, 1) := by decide +kernel
theorem dX8_readCase_67 : decode cX8_readCase 67 = .ok (.invokevirtual 220, 3) := by decide +kernel
theorem dX8_readCase_70 : decode cX8_readCase 70 = .ok (.aload_n 0, 1) := by decide +kernel
theorem dX8_readCase_71 : decode cX8_readCase 71 = .ok (.getfield 199, 3) := by decide +kernel
theorem dX8_readCase_74 : decode cX8_readCase 74 = .ok (.ifCond .ne 97, 3) := by decide +kernel
theorem dX8_readCase_77 : decode cX8_readCase 77 = .ok (.aload_n 0, 1) := by decide +kernel
theorem dX8_readCase_78 : decode cX8_readCase 78 = .ok (.getfield 173, 3) := by decide +kernel
theorem dX8_readCase_81 : decode cX8_readCase 81 = .ok (.iconst 2, 1) := by decide +kernel
theorem dX8_readCase_82 : decode cX8_readCase 82 = .ok (.if_icmp .ne 89, 3) := by decide +kernel
theorem dX8_readCase_85 : decode cX8_readCase 85 = .ok (.iload_n 2, 1) := by decide +kernel
theorem dX8_readCase_86 : decode cX8_readCase 86 = .ok (.bipush 6, 2) := by decide +kernel
theorem dX8_readCase_88 : decode cX8_readCase 88 = .ok (.if_icmp .ne 8, 3) := by decide +kernel
theorem dX8_readCase_91 : decode cX8_readCase 91 = .ok (.aload_n 0, 1) := by decide +kernel
theorem dX8_readCase_92 : decode cX8_readCase 92 = .ok (.iconst 2, 1) := by decide +kernel
theorem dX8_readCase_93 : decode cX8_readCase 93 = .ok (.invokevirtual 220, 3) := by decide +kernel
theorem dX8_readCase_96 : decode cX8_readCase 96 = .ok (.aload_n 0, 1) := by decide +kernel
theorem dX8_readCase_97 : decode cX8_readCase 97 = .ok (.invokevirtual 273, 3) := by decide +kernel
theorem dX8_readCase_100 : decode cX8_readCase 100 = .ok (.istore_n 3, 1) := by decide +kernel
theorem dX8_readCase_101 : decode cX8_readCase 101 = .ok (.aload_n 0, 1) := by decide +kernel
theorem dX8_readCase_102 : decode cX8_readCase 102 = .ok (.getfield 199, 3) := by decide +kernel
theorem dX8_readCase_105 : decode cX8_readCase 105 = .ok (.ifCond .ne 20, 3) := by decide +kernel
theorem dX8_readCase_108 : decode cX8_readCase 108 = .ok (.aload_n 0, 1) := by decide +kernel
theorem dX8_readCase_109 : decode cX8_readCase 109 = .ok (.getfield 55, 3) := by decide +kernel
theorem dX8_readCase_112 : decode cX8_readCase 112 = .ok (.iload_n 1, 1) := by decide +kernel
theorem dX8_readCase_113 : decode cX8_readCase 113 = .ok (.iload_n 3, 1) := by decide +kernel
theorem dX8_readCase_114 : decode cX8_readCase 114 = .ok (.iadd, 1) := by decide +kernel
theorem dX8_readCase_115 : decode cX8_readCase 115 = .ok (.iaload, 1) := by decide +kernel
theorem dX8_readCase_116 : decode cX8_readCase 116 = .ok (.iconst (-1), 1) := by decide +kernel
theorem dX8_readCase_117 : decode cX8_readCase 117 = .ok (.if_icmp .eq 8, 3) := by decide +kernel
theorem dX8_readCase_120 : decode cX8_readCase 120 = .ok (.aload_n 0, 1) := by decide +kernel
theorem dX8_readCase_121 : decode cX8_readCase 121 = .ok (.iconst 4, 1) := by decide +kernel
theorem dX8_readCase_122 : decode cX8_readCase 122 = .ok (.invokevirtual 220, 3) := by decide +kernel
theorem dX8_readCase_125 : decode cX8_readCase 125 = .ok (.aload_n 0, 1) := by decide +kernel
theorem dX8_readCase_126 : decode cX8_readCase 126 = .ok (.getfield 199, 3) := by decide +kernel
theorem dX8_readCase_129 : decode cX8_readCase 129 = .ok (.ifCond .ne 7, 3) := by decide +kernel
theorem dX8_readCase_132 : decode cX8_readCase 132 = .ok (.aload_n 0, 1) := by decide +kernel
theorem dX8_readCase_133 : decode cX8_readCase 133 = .ok (.invokevirtual 224, 3) := by decide +kernel
theorem dX8_readCase_136 : decode cX8_readCase 136 = .ok (.aload_n 0, 1) := by decide +kernel
theorem dX8_readCase_137 : decode cX8_readCase 137 = .ok (.iconst 0, 1) := by decide +kernel
theorem dX8_readCase_138 : decode cX8_readCase 138 = .ok (.bipush 9, 2) := by decide +kernel
theorem dX8_readCase_140 : decode cX8_readCase 140 = .ok (.invokevirtual 230, 3) := by decide +kernel
theorem dX8_readCase_143 : decode cX8_readCase 143 = .ok (.istore 4, 2) := by decide +kernel
theorem dX8_readCase_145 : decode cX8_readCase 145 = .ok (.aload_n 0, 1) := by decide +kernel
theorem dX8_readCase_146 : decode cX8_readCase 146 = .ok (.getfield 199, 3) := by decide +kernel
theorem dX8_readCase_149 : decode cX8_readCase 149 = .ok (.ifCond .eq 6, 3) := by decide +kernel
theorem dX8_readCase_152 : decode cX8_readCase 152 = .ok (.goto (-82), 3) := by decide +kernel
theorem dX8_readCase_155 : decode cX8_readCase 155 = .ok (.aload_n 0, 1) := by decide +kernel
theorem dX8_readCase_156 : decode cX8_readCase 156 = .ok (.getfield 55, 3) := by decide +kernel
theorem dX8_readCase_159 : decode cX8_readCase 159 = .ok (.iload_n 1, 1) := by decide +kernel
theorem dX8_readCase_160 : decode cX8_readCase 160 = .ok (.iload_n 3, 1) := by decide +kernel
theorem dX8_readCase_161 : decode cX8_readCase 161 = .ok (.iadd, 1) := by decide +kernel
theorem dX8_readCase_162 : decode cX8_readCase 162 = .ok (.iload 4, 2) := by decide +kernel
theorem dX8_readCase_164 : decode cX8_readCase 164 = .ok (.iastore, 1) := by decide +kernel
theorem dX8_readCase_165 : decode cX8_readCase 165 = .ok (.iinc 2 1, 3) := by decide +kernel
theorem dX8_readCase_168 : decode cX8_readCase 168 = .ok (.goto (-98), 3) := by decide +kernel
theorem dX8_readCase_171 : decode cX8_readCase 171 = .ok (.aload_n 0, 1) := by decide +kernel
theorem dX8_readCase_172 : decode cX8_readCase 172 = .ok (.getfield 34, 3) := by decide +kernel
theorem dX8_readCase_175 : decode cX8_readCase 175 = .ok (.bipush 12, 2) := by decide +kernel
theorem dX8_readCase_177 : decode cX8_readCase 177 = .ok (.dup2, 1) := by decide +kernel
theorem dX8_readCase_178 : decode cX8_readCase 178 = .ok (.iaload, 1) := by decide +kernel
theorem dX8_readCase_179 : decode cX8_readCase 179 = .ok (.iconst 1, 1) := by decide +kernel
theorem dX8_readCase_180 : decode cX8_readCase 180 = .ok (.iadd, 1) := by decide +kernel
theorem dX8_readCase_181 : decode cX8_readCase 181 = .ok (.iastore, 1) := by decide +kernel
theorem dX8_readCase_182 : decode cX8_readCase 182 = .ok (.return_, 1) := by decide +kernel
theorem dX8_readLine_0 : decode cX8_readLine 0 = .ok (.aload_n 0, 1) := by decide +kernel
theorem dX8_readLine_1 : decode cX8_readLine 1 = .ok (.ldc_w 279, 3) := by decide +kernel
theorem dX8_readLine_4 : decode cX8_readLine 4 = .ok (.invokevirtual 213, 3) := by decide +kernel
theorem dX8_readLine_7 : decode cX8_readLine 7 = .ok (.ifCond .eq 7, 3) := by decide +kernel
theorem dX8_readLine_10 : decode cX8_readLine 10 = .ok (.iconst 1, 1) := by decide +kernel
theorem dX8_readLine_11 : decode cX8_readLine 11 = .ok (.goto 18, 3) := by decide +kernel
theorem dX8_readLine_14 : decode cX8_readLine 14 = .ok (.aload_n 0, 1) := by decide +kernel
theorem dX8_readLine_15 : decode cX8_readLine 15 = .ok (.ldc_w 281, 3) := by decide +kernel
theorem dX8_readLine_18 : decode cX8_readLine 18 = .ok (.invokevirtual 213, 3) := by decide +kernel
theorem dX8_readLine_21 : decode cX8_readLine 21 = .ok (.ifCond .eq 7, 3) := by decide +kernel
theorem dX8_readLine_24 : decode cX8_readLine 24 = .ok (.iconst 2, 1) := by decide +kernel
theorem dX8_readLine_25 : decode cX8_readLine 25 = .ok (.goto 4, 3) := by decide +kernel
theorem dX8_readLine_28 : decode cX8_readLine 28 = .ok (.iconst 0, 1) := by decide +kernel
theorem dX8_readLine_29 : decode cX8_readLine 29 = .ok (.istore_n 2, 1) := by decide +kernel
theorem dX8_readLine_30 : decode cX8_readLine 30 = .ok (.aload_n 0, 1) := by decide +kernel
theorem dX8_readLine_31 : decode cX8_readLine 31 = .ok (.aload_n 0, 1) := by decide +kernel
theorem dX8_readLine_32 : decode cX8_readLine 32 = .ok (.getfield 17, 3) := by decide +kernel
theorem dX8_readLine_35 : decode cX8_readLine 35 = .ok (.invokevirtual 236, 3) := by decide +kernel
theorem dX8_readLine_38 : decode cX8_readLine 38 = .ok (.istore_n 3, 1) := by decide +kernel
theorem dX8_readLine_39 : decode cX8_readLine 39 = .ok (.iload_n 2, 1) := by decide +kernel
theorem dX8_readLine_40 : decode cX8_readLine 40 = .ok (.iload_n 1, 1) := by decide +kernel
theorem dX8_readLine_41 : decode cX8_readLine 41 = .ok (.iand, 1) := by decide +kernel
theorem dX8_readLine_42 : decode cX8_readLine 42 = .ok (.ifCond .eq 8, 3) := by decide +kernel
theorem dX8_readLine_45 : decode cX8_readLine 45 = .ok (.aload_n 0, 1) := by decide +kernel
theorem dX8_readLine_46 : decode cX8_readLine 46 = .ok (.iconst 5, 1) := by decide +kernel
theorem dX8_readLine_47 : decode cX8_readLine 47 = .ok (.invokevirtual 220, 3) := by decide +kernel
theorem dX8_readLine_50 : decode cX8_readLine 50 = .ok (.iload_n 2, 1) := by decide +kernel
theorem dX8_readLine_51 : decode cX8_readLine 51 = .ok (.ifCond .le 44, 3) := by decide +kernel
theorem dX8_readLine_54 : decode cX8_readLine 54 = .ok (.aload_n 0, 1) := by decide +kernel
theorem dX8_readLine_55 : decode cX8_readLine 55 = .ok (.getfield 199, 3) := by decide +kernel
theorem dX8_readLine_58 : decode cX8_readLine 58 = .ok (.ifCond .ne 7, 3) := by decide +kernel
theorem dX8_readLine_61 : decode cX8_readLine 61 = .ok (.aload_n 0, 1) := by decide +kernel
theorem dX8_readLine_62 : decode cX8_readLine 62 = .ok (.invokevirtual 224, 3) := by decide +kernel
theorem dX8_readLine_65 : decode cX8_readLine 65 = .ok (.iload_n 2, 1) := by decide +kernel
theorem dX8_readLine_66 : decode cX8_readLine 66 = .ok (.iconst 1, 1) := by decide +kernel
theorem dX8_readLine_67 : decode cX8_readLine 67 = .ok (.if_icmp .ne 20, 3) := by decide +kernel
theorem dX8_readLine_70 : decode cX8_readLine 70 = .ok (.aload_n 0, 1) := by decide +kernel
theorem dX8_readLine_71 : decode cX8_readLine 71 = .ok (.getfield 34, 3) := by decide +kernel
theorem dX8_readLine_74 : decode cX8_readLine 74 = .ok (.bipush 10, 2) := by decide +kernel
theorem dX8_readLine_76 : decode cX8_readLine 76 = .ok (.aload_n 0, 1) := by decide +kernel
theorem dX8_readLine_77 : decode cX8_readLine 77 = .ok (.iconst 1, 1) := by decide +kernel
theorem dX8_readLine_78 : decode cX8_readLine 78 = .ok (.bipush 40, 2) := by decide +kernel
theorem dX8_readLine_80 : decode cX8_readLine 80 = .ok (.invokevirtual 230, 3) := by decide +kernel
theorem dX8_readLine_83 : decode cX8_readLine 83 = .ok (.iastore, 1) := by decide +kernel
theorem dX8_readLine_84 : decode cX8_readLine 84 = .ok (.goto 79, 3) := by decide +kernel
theorem dX8_readLine_87 : decode cX8_readLine 87 = .ok (.aload_n 0, 1) := by decide +kernel
theorem dX8_readLine_88 : decode cX8_readLine 88 = .ok (.iconst 0, 1) := by decide +kernel
theorem dX8_readLine_89 : decode cX8_readLine 89 = .ok (.invokevirtual 243, 3) := by decide +kernel
theorem dX8_readLine_92 : decode cX8_readLine 92 = .ok (.goto 71, 3) := by decide +kernel
theorem dX8_readLine_95 : decode cX8_readLine 95 = .ok (.iload_n 3, 1) := by decide +kernel
theorem dX8_readLine_96 : decode cX8_readLine 96 = .ok (.iconst (-1), 1) := by decide +kernel
theorem dX8_readLine_97 : decode cX8_readLine 97 = .ok (.if_icmp .eq 11, 3) := by decide +kernel
theorem dX8_readLine_100 : decode cX8_readLine 100 = .ok (.aload_n 0, 1) := by decide +kernel
theorem dX8_readLine_101 : decode cX8_readLine 101 = .ok (.iload_n 3, 1) := by decide +kernel
theorem dX8_readLine_102 : decode cX8_readLine 102 = .ok (.invokevirtual 283, 3) := by decide +kernel
theorem dX8_readLine_105 : decode cX8_readLine 105 = .ok (.goto 58, 3) := by decide +kernel
theorem dX8_readLine_108 : decode cX8_readLine 108 = .ok (.aload_n 0, 1) := by decide +kernel
theorem dX8_readLine_109 : decode cX8_readLine 109 = .ok (.ldc 27, 2) := by decide +kernel
theorem dX8_readLine_111 : decode cX8_readLine 111 = .ok (.invokevirtual 213, 3) := by decide +kernel
theorem dX8_readLine_114 : decode cX8_readLine 114 = .ok (.ifCond .eq 10, 3) := by decide +kernel
theorem dX8_readLine_117 : decode cX8_readLine 117 = .ok (.aload_n 0, 1) := by decide +kernel
theorem dX8_readLine_118 : decode cX8_readLine 118 = .ok (.invokevirtual 286, 3) := by decide +kernel
theorem dX8_readLine_121 : decode cX8_readLine 121 = .ok (.goto 42, 3) := by decide +kernel
theorem dX8_readLine_124 : decode cX8_readLine 124 = .ok (.aload_n 0, 1) := by decide +kernel
theorem dX8_readLine_125 : decode cX8_readLine 125 = .ok (.ldc_w 289, 3) := by decide +kernel
theorem dX8_readLine_128 : decode cX8_readLine 128 = .ok (.invokevirtual 213, 3) := by decide +kernel
theorem dX8_readLine_131 : decode cX8_readLine 131 = .ok (.ifCond .eq 10, 3) := by decide +kernel
theorem dX8_readLine_134 : decode cX8_readLine 134 = .ok (.aload_n 0, 1) := by decide +kernel
theorem dX8_readLine_135 : decode cX8_readLine 135 = .ok (.invokevirtual 290, 3) := by decide +kernel
theorem dX8_readLine_138 : decode cX8_readLine 138 = .ok (.goto 25, 3) := by decide +kernel
theorem dX8_readLine_141 : decode cX8_readLine 141 = .ok (.aload_n 0, 1) := by decide +kernel
theorem dX8_readLine_142 : decode cX8_readLine 142 = .ok (.ldc_w 293, 3) := by decide +kernel
theorem dX8_readLine_145 : decode cX8_readLine 145 = .ok (.invokevirtual 213, 3) := by decide +kernel
theorem dX8_readLine_148 : decode cX8_readLine 148 = .ok (.ifCond .eq 10, 3) := by decide +kernel
theorem dX8_readLine_151 : decode cX8_readLine 151 = .ok (.aload_n 0, 1) := by decide +kernel
theorem dX8_readLine_152 : decode cX8_readLine 152 = .ok (.invokevirtual 295, 3) := by decide +kernel
theorem dX8_readLine_155 : decode cX8_readLine 155 = .ok (.goto 8, 3) := by decide +kernel
theorem dX8_readLine_158 : decode cX8_readLine 158 = .ok (.aload_n 0, 1) := by decide +kernel
theorem dX8_readLine_159 : decode cX8_readLine 159 = .ok (.iconst 1, 1) := by decide +kernel
theorem dX8_readLine_160 : decode cX8_readLine 160 = .ok (.invokevirtual 220, 3) := by decide +kernel
theorem dX8_readLine_163 : decode cX8_readLine 163 = .ok (.aload_n 0, 1) := by decide +kernel
theorem dX8_readLine_164 : decode cX8_readLine 164 = .ok (.bipush 59, 2) := by decide +kernel
theorem dX8_readLine_166 : decode cX8_readLine 166 = .ok (.invokevirtual 240, 3) := by decide +kernel
theorem dX8_readLine_169 : decode cX8_readLine 169 = .ok (.iload_n 1, 1) := by decide +kernel
theorem dX8_readLine_170 : decode cX8_readLine 170 = .ok (.iload_n 2, 1) := by decide +kernel
theorem dX8_readLine_171 : decode cX8_readLine 171 = .ok (.ior, 1) := by decide +kernel
theorem dX8_readLine_172 : decode cX8_readLine 172 = .ok (.ireturn, 1) := by decide +kernel
theorem dX8_takeHalf_0 : decode cX8_takeHalf 0 = .ok (.iconst 0, 1) := by decide +kernel
theorem dX8_takeHalf_1 : decode cX8_takeHalf 1 = .ok (.istore_n 1, 1) := by decide +kernel
theorem dX8_takeHalf_2 : decode cX8_takeHalf 2 = .ok (.iload_n 1, 1) := by decide +kernel
theorem dX8_takeHalf_3 : decode cX8_takeHalf 3 = .ok (.aload_n 0, 1) := by decide +kernel
theorem dX8_takeHalf_4 : decode cX8_takeHalf 4 = .ok (.arraylength, 1) := by decide +kernel
theorem dX8_takeHalf_5 : decode cX8_takeHalf 5 = .ok (.iconst 2, 1) := by decide +kernel
theorem dX8_takeHalf_6 : decode cX8_takeHalf 6 = .ok (.idiv, 1) := by decide +kernel
theorem dX8_takeHalf_7 : decode cX8_takeHalf 7 = .ok (.if_icmp .ge 20, 3) := by decide +kernel
theorem dX8_takeHalf_10 : decode cX8_takeHalf 10 = .ok (.aload_n 0, 1) := by decide +kernel
theorem dX8_takeHalf_11 : decode cX8_takeHalf 11 = .ok (.iload_n 1, 1) := by decide +kernel
theorem dX8_takeHalf_12 : decode cX8_takeHalf 12 = .ok (.aload_n 0, 1) := by decide +kernel
theorem dX8_takeHalf_13 : decode cX8_takeHalf 13 = .ok (.aload_n 0, 1) := by decide +kernel
theorem dX8_takeHalf_14 : decode cX8_takeHalf 14 = .ok (.arraylength, 1) := by decide +kernel
theorem dX8_takeHalf_15 : decode cX8_takeHalf 15 = .ok (.iconst 2, 1) := by decide +kernel
theorem dX8_takeHalf_16 : decode cX8_takeHalf 16 = .ok (.idiv, 1) := by decide +kernel
theorem dX8_takeHalf_17 : decode cX8_takeHalf 17 = .ok (.iload_n 1, 1) := by decide +kernel
theorem dX8_takeHalf_18 : decode cX8_takeHalf 18 = .ok (.iadd, 1) := by decide +kernel
theorem dX8_takeHalf_19 : decode cX8_takeHalf 19 = .ok (.iaload, 1) := by decide +kernel
theorem dX8_takeHalf_20 : decode cX8_takeHalf 20 = .ok (.iastore, 1) := by decide +kernel
theorem dX8_takeHalf_21 : decode cX8_takeHalf 21 = .ok (.iinc 1 1, 3) := by decide +kernel
theorem dX8_takeHalf_24 : decode cX8_takeHalf 24 = .ok (.goto (-22), 3) := by decide +kernel
theorem dX8_takeHalf_27 : decode cX8_takeHalf 27 = .ok (.return_, 1) := by decide +kernel
theorem dX8_tellFar_0 : decode cX8_tellFar 0 = .ok (.iconst 0, 1) := by decide +kernel
theorem dX8_tellFar_1 : decode cX8_tellFar 1 = .ok (.istore_n 1, 1) := by decide +kernel
theorem dX8_tellFar_2 : decode cX8_tellFar 2 = .ok (.iload_n 1, 1) := by decide +kernel
theorem dX8_tellFar_3 : decode cX8_tellFar 3 = .ok (.aload_n 0, 1) := by decide +kernel
theorem dX8_tellFar_4 : decode cX8_tellFar 4 = .ok (.getfield 34, 3) := by decide +kernel
theorem dX8_tellFar_7 : decode cX8_tellFar 7 = .ok (.iconst 0, 1) := by decide +kernel
theorem dX8_tellFar_8 : decode cX8_tellFar 8 = .ok (.iaload, 1) := by decide +kernel
theorem dX8_tellFar_9 : decode cX8_tellFar 9 = .ok (.if_icmp .ge 74, 3) := by decide +kernel
theorem dX8_tellFar_12 : decode cX8_tellFar 12 = .ok (.iconst 0, 1) := by decide +kernel
theorem dX8_tellFar_13 : decode cX8_tellFar 13 = .ok (.istore_n 2, 1) := by decide +kernel
theorem dX8_tellFar_14 : decode cX8_tellFar 14 = .ok (.iload_n 2, 1) := by decide +kernel
theorem dX8_tellFar_15 : decode cX8_tellFar 15 = .ok (.aload_n 0, 1) := by decide +kernel
theorem dX8_tellFar_16 : decode cX8_tellFar 16 = .ok (.getfield 34, 3) := by decide +kernel
theorem dX8_tellFar_19 : decode cX8_tellFar 19 = .ok (.iconst 0, 1) := by decide +kernel
theorem dX8_tellFar_20 : decode cX8_tellFar 20 = .ok (.iaload, 1) := by decide +kernel
theorem dX8_tellFar_21 : decode cX8_tellFar 21 = .ok (.if_icmp .ge 56, 3) := by decide +kernel
theorem dX8_tellFar_24 : decode cX8_tellFar 24 = .ok (.aload_n 0, 1) := by decide +kernel
theorem dX8_tellFar_25 : decode cX8_tellFar 25 = .ok (.getfield 70, 3) := by decide +kernel
theorem dX8_tellFar_28 : decode cX8_tellFar 28 = .ok (.iload_n 1, 1) := by decide +kernel
theorem dX8_tellFar_29 : decode cX8_tellFar 29 = .ok (.iload_n 2, 1) := by decide +kernel
theorem dX8_tellFar_30 : decode cX8_tellFar 30 = .ok (.invokestatic 276, 3) := by decide +kernel
theorem dX8_tellFar_33 : decode cX8_tellFar 33 = .ok (.iload_n 1, 1) := by decide +kernel
theorem dX8_tellFar_34 : decode cX8_tellFar 34 = .ok (.iload_n 2, 1) := by decide +kernel
theorem dX8_tellFar_35 : decode cX8_tellFar 35 = .ok (.if_icmp .ne 7, 3) := by decide +kernel
theorem dX8_tellFar_38 : decode cX8_tellFar 38 = .ok (.iconst 0, 1) := by decide +kernel
theorem dX8_tellFar_39 : decode cX8_tellFar 39 = .ok (.goto 31, 3) := by decide +kernel
theorem dX8_tellFar_42 : decode cX8_tellFar 42 = .ok (.aload_n 0, 1) := by decide +kernel
theorem dX8_tellFar_43 : decode cX8_tellFar 43 = .ok (.getfield 38, 3) := by decide +kernel
theorem dX8_tellFar_46 : decode cX8_tellFar 46 = .ok (.iload_n 1, 1) := by decide +kernel
theorem dX8_tellFar_47 : decode cX8_tellFar 47 = .ok (.iload_n 2, 1) := by decide +kernel
theorem dX8_tellFar_48 : decode cX8_tellFar 48 = .ok (.invokestatic 276, 3) := by decide +kernel
theorem dX8_tellFar_51 : decode cX8_tellFar 51 = .ok (.iaload, 1) := by decide +kernel
theorem dX8_tellFar_52 : decode cX8_tellFar 52 = .ok (.ifCond .le 16, 3) := by decide +kernel
theorem dX8_tellFar_55 : decode cX8_tellFar 55 = .ok (.aload_n 0, 1) := by decide +kernel
theorem dX8_tellFar_56 : decode cX8_tellFar 56 = .ok (.getfield 38, 3) := by decide +kernel
theorem dX8_tellFar_59 : decode cX8_tellFar 59 = .ok (.iload_n 1, 1) := by decide +kernel
theorem dX8_tellFar_60 : decode cX8_tellFar 60 = .ok (.iload_n 2, 1) := by decide +kernel
theorem dX8_tellFar_61 : decode cX8_tellFar 61 = .ok (.invokestatic 276, 3) := by decide +kernel
theorem dX8_tellFar_64 : decode cX8_tellFar 64 = .ok (.iaload, 1) := by decide +kernel
theorem dX8_tellFar_65 : decode cX8_tellFar 65 = .ok (.goto 5, 3) := by decide +kernel
theorem dX8_tellFar_68 : decode cX8_tellFar 68 = .ok (.ldc 186, 2) := by decide +kernel
theorem dX8_tellFar_70 : decode cX8_tellFar 70 = .ok (.iastore, 1) := by decide +kernel
theorem dX8_tellFar_71 : decode cX8_tellFar 71 = .ok (.iinc 2 1, 3) := by decide +kernel
theorem dX8_tellFar_74 : decode cX8_tellFar 74 = .ok (.goto (-60), 3) := by decide +kernel
theorem dX8_tellFar_77 : decode cX8_tellFar 77 = .ok (.iinc 1 1, 3) := by decide +kernel
theorem dX8_tellFar_80 : decode cX8_tellFar 80 = .ok (.goto (-78), 3) := by decide +kernel
theorem dX8_tellFar_83 : decode cX8_tellFar 83 = .ok (.iconst 0, 1) := by decide +kernel
theorem dX8_tellFar_84 : decode cX8_tellFar 84 = .ok (.istore_n 1, 1) := by decide +kernel
theorem dX8_tellFar_85 : decode cX8_tellFar 85 = .ok (.iload_n 1, 1) := by decide +kernel
theorem dX8_tellFar_86 : decode cX8_tellFar 86 = .ok (.aload_n 0, 1) := by decide +kernel
theorem dX8_tellFar_87 : decode cX8_tellFar 87 = .ok (.getfield 34, 3) := by decide +kernel
theorem dX8_tellFar_90 : decode cX8_tellFar 90 = .ok (.iconst 0, 1) := by decide +kernel
theorem dX8_tellFar_91 : decode cX8_tellFar 91 = .ok (.iaload, 1) := by decide +kernel
theorem dX8_tellFar_92 : decode cX8_tellFar 92 = .ok (.if_icmp .ge 89, 3) := by decide +kernel
theorem dX8_tellFar_95 : decode cX8_tellFar 95 = .ok (.iconst 0, 1) := by decide +kernel
theorem dX8_tellFar_96 : decode cX8_tellFar 96 = .ok (.istore_n 2, 1) := by decide +kernel
theorem dX8_tellFar_97 : decode cX8_tellFar 97 = .ok (.iload_n 2, 1) := by decide +kernel
theorem dX8_tellFar_98 : decode cX8_tellFar 98 = .ok (.aload_n 0, 1) := by decide +kernel
theorem dX8_tellFar_99 : decode cX8_tellFar 99 = .ok (.getfield 34, 3) := by decide +kernel
theorem dX8_tellFar_102 : decode cX8_tellFar 102 = .ok (.iconst 0, 1) := by decide +kernel
theorem dX8_tellFar_103 : decode cX8_tellFar 103 = .ok (.iaload, 1) := by decide +kernel
theorem dX8_tellFar_104 : decode cX8_tellFar 104 = .ok (.if_icmp .ge 71, 3) := by decide +kernel
theorem dX8_tellFar_107 : decode cX8_tellFar 107 = .ok (.iconst 0, 1) := by decide +kernel
theorem dX8_tellFar_108 : decode cX8_tellFar 108 = .ok (.istore_n 3, 1) := by decide +kernel
theorem dX8_tellFar_109 : decode cX8_tellFar 109 = .ok (.iload_n 3, 1) := by decide +kernel
theorem dX8_tellFar_110 : decode cX8_tellFar 110 = .ok (.aload_n 0, 1) := by decide +kernel
theorem dX8_tellFar_111 : decode cX8_tellFar 111 = .ok (.getfield 34, 3) := by decide +kernel
theorem dX8_tellFar_114 : decode cX8_tellFar 114 = .ok (.iconst 0, 1) := by decide +kernel
theorem dX8_tellFar_115 : decode cX8_tellFar 115 = .ok (.iaload, 1) := by decide +kernel
theorem dX8_tellFar_116 : decode cX8_tellFar 116 = .ok (.if_icmp .ge 53, 3) := by decide +kernel
theorem dX8_tellFar_119 : decode cX8_tellFar 119 = .ok (.aload_n 0, 1) := by decide +kernel
theorem dX8_tellFar_120 : decode cX8_tellFar 120 = .ok (.getfield 70, 3) := by decide +kernel
theorem dX8_tellFar_123 : decode cX8_tellFar 123 = .ok (.iload_n 2, 1) := by decide +kernel
theorem dX8_tellFar_124 : decode cX8_tellFar 124 = .ok (.iload_n 3, 1) := by decide +kernel
theorem dX8_tellFar_125 : decode cX8_tellFar 125 = .ok (.invokestatic 276, 3) := by decide +kernel
theorem dX8_tellFar_128 : decode cX8_tellFar 128 = .ok (.aload_n 0, 1) := by decide +kernel
theorem dX8_tellFar_129 : decode cX8_tellFar 129 = .ok (.getfield 70, 3) := by decide +kernel
theorem dX8_tellFar_132 : decode cX8_tellFar 132 = .ok (.iload_n 2, 1) := by decide +kernel
theorem dX8_tellFar_133 : decode cX8_tellFar 133 = .ok (.iload_n 3, 1) := by decide +kernel
theorem dX8_tellFar_134 : decode cX8_tellFar 134 = .ok (.invokestatic 276, 3) := by decide +kernel
theorem dX8_tellFar_137 : decode cX8_tellFar 137 = .ok (.iaload, 1) := by decide +kernel
theorem dX8_tellFar_138 : decode cX8_tellFar 138 = .ok (.aload_n 0, 1) := by decide +kernel
theorem dX8_tellFar_139 : decode cX8_tellFar 139 = .ok (.getfield 70, 3) := by decide +kernel
theorem dX8_tellFar_142 : decode cX8_tellFar 142 = .ok (.iload_n 2, 1) := by decide +kernel
theorem dX8_tellFar_143 : decode cX8_tellFar 143 = .ok (.iload_n 1, 1) := by decide +kernel
theorem dX8_tellFar_144 : decode cX8_tellFar 144 = .ok (.invokestatic 276, 3) := by decide +kernel
theorem dX8_tellFar_147 : decode cX8_tellFar 147 = .ok (.iaload, 1) := by decide +kernel
theorem dX8_tellFar_148 : decode cX8_tellFar 148 = .ok (.aload_n 0, 1) := by decide +kernel
theorem dX8_tellFar_149 : decode cX8_tellFar 149 = .ok (.getfield 70, 3) := by decide +kernel
theorem dX8_tellFar_152 : decode cX8_tellFar 152 = .ok (.iload_n 1, 1) := by decide +kernel
theorem dX8_tellFar_153 : decode cX8_tellFar 153 = .ok (.iload_n 3, 1) := by decide +kernel
theorem dX8_tellFar_154 : decode cX8_tellFar 154 = .ok (.invokestatic 276, 3) := by decide +kernel
theorem dX8_tellFar_157 : decode cX8_tellFar 157 = .ok (.iaload, 1) := by decide +kernel
theorem dX8_tellFar_158 : decode cX8_tellFar 158 = .ok (.iadd, 1) := by decide +kernel
theorem dX8_tellFar_159 : decode cX8_tellFar 159 = .ok (.invokestatic 187, 3) := by decide +kernel
theorem dX8_tellFar_162 : decode cX8_tellFar 162 = .ok (.iastore, 1) := by decide +kernel
theorem dX8_tellFar_163 : decode cX8_tellFar 163 = .ok (.iinc 3 1, 3) := by decide +kernel
theorem dX8_tellFar_166 : decode cX8_tellFar 166 = .ok (.goto (-57), 3) := by decide +kernel
theorem dX8_tellFar_169 : decode cX8_tellFar 169 = .ok (.iinc 2 1, 3) := by decide +kernel
theorem dX8_tellFar_172 : decode cX8_tellFar 172 = .ok (.goto (-75), 3) := by decide +kernel
theorem dX8_tellFar_175 : decode cX8_tellFar 175 = .ok (.iinc 1 1, 3) := by decide +kernel
theorem dX8_tellFar_178 : decode cX8_tellFar 178 = .ok (.goto (-93), 3) := by decide +kernel
theorem dX8_tellFar_181 : decode cX8_tellFar 181 = .ok (.return_, 1) := by decide +kernel
theorem dX8_takeOver_0 : decode cX8_takeOver 0 = .ok (.aload_n 0, 1) := by decide +kernel
theorem dX8_takeOver_1 : decode cX8_takeOver 1 = .ok (.getfield 34, 3) := by decide +kernel
theorem dX8_takeOver_4 : decode cX8_takeOver 4 = .ok (.invokestatic 307, 3) := by decide +kernel
theorem dX8_takeOver_7 : decode cX8_takeOver 7 = .ok (.aload_n 0, 1) := by decide +kernel
theorem dX8_takeOver_8 : decode cX8_takeOver 8 = .ok (.getfield 38, 3) := by decide +kernel
theorem dX8_takeOver_11 : decode cX8_takeOver 11 = .ok (.invokestatic 307, 3) := by decide +kernel
theorem dX8_takeOver_14 : decode cX8_takeOver 14 = .ok (.aload_n 0, 1) := by decide +kernel
theorem dX8_takeOver_15 : decode cX8_takeOver 15 = .ok (.getfield 41, 3) := by decide +kernel
theorem dX8_takeOver_18 : decode cX8_takeOver 18 = .ok (.invokestatic 307, 3) := by decide +kernel
theorem dX8_takeOver_21 : decode cX8_takeOver 21 = .ok (.aload_n 0, 1) := by decide +kernel
theorem dX8_takeOver_22 : decode cX8_takeOver 22 = .ok (.getfield 44, 3) := by decide +kernel
theorem dX8_takeOver_25 : decode cX8_takeOver 25 = .ok (.invokestatic 307, 3) := by decide +kernel
theorem dX8_takeOver_28 : decode cX8_takeOver 28 = .ok (.aload_n 0, 1) := by decide +kernel
theorem dX8_takeOver_29 : decode cX8_takeOver 29 = .ok (.getfield 47, 3) := by decide +kernel
theorem dX8_takeOver_32 : decode cX8_takeOver 32 = .ok (.invokestatic 307, 3) := by decide +kernel
theorem dX8_takeOver_35 : decode cX8_takeOver 35 = .ok (.aload_n 0, 1) := by decide +kernel
theorem dX8_takeOver_36 : decode cX8_takeOver 36 = .ok (.getfield 49, 3) := by decide +kernel
theorem dX8_takeOver_39 : decode cX8_takeOver 39 = .ok (.invokestatic 307, 3) := by decide +kernel
theorem dX8_takeOver_42 : decode cX8_takeOver 42 = .ok (.aload_n 0, 1) := by decide +kernel
theorem dX8_takeOver_43 : decode cX8_takeOver 43 = .ok (.getfield 52, 3) := by decide +kernel
theorem dX8_takeOver_46 : decode cX8_takeOver 46 = .ok (.invokestatic 307, 3) := by decide +kernel
theorem dX8_takeOver_49 : decode cX8_takeOver 49 = .ok (.aload_n 0, 1) := by decide +kernel
theorem dX8_takeOver_50 : decode cX8_takeOver 50 = .ok (.getfield 55, 3) := by decide +kernel
theorem dX8_takeOver_53 : decode cX8_takeOver 53 = .ok (.invokestatic 307, 3) := by decide +kernel
theorem dX8_takeOver_56 : decode cX8_takeOver 56 = .ok (.aload_n 0, 1) := by decide +kernel
theorem dX8_takeOver_57 : decode cX8_takeOver 57 = .ok (.getfield 57, 3) := by decide +kernel
theorem dX8_takeOver_60 : decode cX8_takeOver 60 = .ok (.invokestatic 307, 3) := by decide +kernel
theorem dX8_takeOver_63 : decode cX8_takeOver 63 = .ok (.aload_n 0, 1) := by decide +kernel
theorem dX8_takeOver_64 : decode cX8_takeOver 64 = .ok (.aload_n 0, 1) := by decide +kernel
theorem dX8_takeOver_65 : decode cX8_takeOver 65 = .ok (.getfield 34, 3) := by decide +kernel
theorem dX8_takeOver_68 : decode cX8_takeOver 68 = .ok (.iconst 1, 1) := by decide +kernel
theorem dX8_takeOver_69 : decode cX8_takeOver 69 = .ok (.iaload, 1) := by decide +kernel
theorem dX8_takeOver_70 : decode cX8_takeOver 70 = .ok (.putfield 311, 3) := by decide +kernel
theorem dX8_takeOver_73 : decode cX8_takeOver 73 = .ok (.aload_n 0, 1) := by decide +kernel
theorem dX8_takeOver_74 : decode cX8_takeOver 74 = .ok (.iconst 0, 1) := by decide +kernel
theorem dX8_takeOver_75 : decode cX8_takeOver 75 = .ok (.putfield 314, 3) := by decide +kernel
theorem dX8_takeOver_78 : decode cX8_takeOver 78 = .ok (.aload_n 0, 1) := by decide +kernel
theorem dX8_takeOver_79 : decode cX8_takeOver 79 = .ok (.iconst 0, 1) := by decide +kernel
theorem dX8_takeOver_80 : decode cX8_takeOver 80 = .ok (.putfield 317, 3) := by decide +kernel
theorem dX8_takeOver_83 : decode cX8_takeOver 83 = .ok (.aload_n 0, 1) := by decide +kernel
theorem dX8_takeOver_84 : decode cX8_takeOver 84 = .ok (.iconst 0, 1) := by decide +kernel
theorem dX8_takeOver_85 : decode cX8_takeOver 85 = .ok (.putfield 320, 3) := by decide +kernel
theorem dX8_takeOver_88 : decode cX8_takeOver 88 = .ok (.aload_n 0, 1) := by decide +kernel
theorem dX8_takeOver_89 : decode cX8_takeOver 89 = .ok (.iconst 0, 1) := by decide +kernel
theorem dX8_takeOver_90 : decode cX8_takeOver 90 = .ok (.putfield 323, 3) := by decide +kernel
theorem dX8_takeOver_93 : decode cX8_takeOver 93 = .ok (.aload_n 0, 1) := by decide +kernel
theorem dX8_takeOver_94 : decode cX8_takeOver 94 = .ok (.iconst 0, 1) := by decide +kernel
theorem dX8_takeOver_95 : decode cX8_takeOver 95 = .ok (.putfield 326, 3) := by decide +kernel
theorem dX8_takeOver_98 : decode cX8_takeOver 98 = .ok (.aload_n 0, 1) := by decide +kernel
theorem dX8_takeOver_99 : decode cX8_takeOver 99 = .ok (.iconst 0, 1) := by decide +kernel
theorem dX8_takeOver_100 : decode cX8_takeOver 100 = .ok (.putfield 329, 3) := by decide +kernel
theorem dX8_takeOver_103 : decode cX8_takeOver 103 = .ok (.aload_n 0, 1) := by decide +kernel
theorem dX8_takeOver_104 : decode cX8_takeOver 104 = .ok (.invokevirtual 333, 3) := by decide +kernel
theorem dX8_takeOver_107 : decode cX8_takeOver 107 = .ok (.return_, 1) := by decide +kernel
theorem dX8_land_0 : decode cX8_land 0 = .ok (.aload_n 0, 1) := by decide +kernel
theorem dX8_land_1 : decode cX8_land 1 = .ok (.iconst 0, 1) := by decide +kernel
theorem dX8_land_2 : decode cX8_land 2 = .ok (.putfield 150, 3) := by decide +kernel
theorem dX8_land_5 : decode cX8_land 5 = .ok (.iload_n 1, 1) := by decide +kernel
theorem dX8_land_6 : decode cX8_land 6 = .ok (.ifCond .lt 11, 3) := by decide +kernel
theorem dX8_land_9 : decode cX8_land 9 = .ok (.iload_n 1, 1) := by decide +kernel
theorem dX8_land_10 : decode cX8_land 10 = .ok (.aload_n 0, 1) := by decide +kernel
theorem dX8_land_11 : decode cX8_land 11 = .ok (.getfield 157, 3) := by decide +kernel
theorem dX8_land_14 : decode cX8_land 14 = .ok (.if_icmp .le 9, 3) := by decide +kernel
theorem dX8_land_17 : decode cX8_land 17 = .ok (.aload_n 0, 1) := by decide +kernel
theorem dX8_land_18 : decode cX8_land 18 = .ok (.iconst 1, 1) := by decide +kernel
theorem dX8_land_19 : decode cX8_land 19 = .ok (.invokevirtual 298, 3) := by decide +kernel
theorem dX8_land_22 : decode cX8_land 22 = .ok (.ireturn, 1) := by decide +kernel
theorem dX8_land_23 : decode cX8_land 23 = .ok (.aload_n 0, 1) := by decide +kernel
theorem dX8_land_24 : decode cX8_land 24 = .ok (.iconst 0, 1) := by decide +kernel
theorem dX8_land_25 : decode cX8_land 25 = .ok (.putfield 157, 3) := by decide +kernel
theorem dX8_land_28 : decode cX8_land 28 = .ok (.aload_n 0, 1) := by decide +kernel
theorem dX8_land_29 : decode cX8_land 29 = .ok (.iload_n 1, 1) := by decide +kernel
theorem dX8_land_30 : decode cX8_land 30 = .ok (.putfield 160, 3) := by decide +kernel
theorem dX8_land_33 : decode cX8_land 33 = .ok (.aload_n 0, 1) := by decide +kernel
theorem dX8_land_34 : decode cX8_land 34 = .ok (.iconst 0, 1) := by decide +kernel
theorem dX8_land_35 : decode cX8_land 35 = .ok (.putfield 163, 3) := by decide +kernel
theorem dX8_land_38 : decode cX8_land 38 = .ok (.aload_n 0, 1) := by decide +kernel
theorem dX8_land_39 : decode cX8_land 39 = .ok (.iconst 0, 1) := by decide +kernel
theorem dX8_land_40 : decode cX8_land 40 = .ok (.putfield 199, 3) := by decide +kernel
theorem dX8_land_43 : decode cX8_land 43 = .ok (.aload_n 0, 1) := by decide +kernel
theorem dX8_land_44 : decode cX8_land 44 = .ok (.iconst (-1), 1) := by decide +kernel
theorem dX8_land_45 : decode cX8_land 45 = .ok (.putfield 66, 3) := by decide +kernel
theorem dX8_land_48 : decode cX8_land 48 = .ok (.iconst 0, 1) := by decide +kernel
theorem dX8_land_49 : decode cX8_land 49 = .ok (.istore_n 2, 1) := by decide +kernel
theorem dX8_land_50 : decode cX8_land 50 = .ok (.iload_n 2, 1) := by decide +kernel
theorem dX8_land_51 : decode cX8_land 51 = .ok (.bipush 7, 2) := by decide +kernel
theorem dX8_land_53 : decode cX8_land 53 = .ok (.if_icmp .ge 29, 3) := by decide +kernel
theorem dX8_land_56 : decode cX8_land 56 = .ok (.aload_n 0, 1) := by decide +kernel
theorem dX8_land_57 : decode cX8_land 57 = .ok (.getfield 34, 3) := by decide +kernel
theorem dX8_land_60 : decode cX8_land 60 = .ok (.bipush 7, 2) := by decide +kernel
theorem dX8_land_62 : decode cX8_land 62 = .ok (.iload_n 2, 1) := by decide +kernel
theorem dX8_land_63 : decode cX8_land 63 = .ok (.iadd, 1) := by decide +kernel
theorem dX8_land_64 : decode cX8_land 64 = .ok (.iload_n 2, 1) := by decide +kernel
theorem dX8_land_65 : decode cX8_land 65 = .ok (.iconst 3, 1) := by decide +kernel
theorem dX8_land_66 : decode cX8_land 66 = .ok (.if_icmp .ne 8, 3) := by decide +kernel
theorem dX8_land_69 : decode cX8_land 69 = .ok (.bipush 10, 2) := by decide +kernel
theorem dX8_land_71 : decode cX8_land 71 = .ok (.goto 4, 3) := by decide +kernel
theorem dX8_land_74 : decode cX8_land 74 = .ok (.iconst 0, 1) := by decide +kernel
theorem dX8_land_75 : decode cX8_land 75 = .ok (.iastore, 1) := by decide +kernel
theorem dX8_land_76 : decode cX8_land 76 = .ok (.iinc 2 1, 3) := by decide +kernel
theorem dX8_land_79 : decode cX8_land 79 = .ok (.goto (-29), 3) := by decide +kernel
theorem dX8_land_82 : decode cX8_land 82 = .ok (.iconst 0, 1) := by decide +kernel
theorem dX8_land_83 : decode cX8_land 83 = .ok (.istore_n 2, 1) := by decide +kernel
theorem dX8_land_84 : decode cX8_land 84 = .ok (.iload_n 2, 1) := by decide +kernel
theorem dX8_land_85 : decode cX8_land 85 = .ok (.bipush 81, 2) := by decide +kernel
theorem dX8_land_87 : decode cX8_land 87 = .ok (.if_icmp .ge 19, 3) := by decide +kernel
theorem dX8_land_90 : decode cX8_land 90 = .ok (.aload_n 0, 1) := by decide +kernel
theorem dX8_land_91 : decode cX8_land 91 = .ok (.getfield 38, 3) := by decide +kernel
theorem dX8_land_94 : decode cX8_land 94 = .ok (.bipush 81, 2) := by decide +kernel
theorem dX8_land_96 : decode cX8_land 96 = .ok (.iload_n 2, 1) := by decide +kernel
theorem dX8_land_97 : decode cX8_land 97 = .ok (.iadd, 1) := by decide +kernel
theorem dX8_land_98 : decode cX8_land 98 = .ok (.iconst 0, 1) := by decide +kernel
theorem dX8_land_99 : decode cX8_land 99 = .ok (.iastore, 1) := by decide +kernel
theorem dX8_land_100 : decode cX8_land 100 = .ok (.iinc 2 1, 3) := by decide +kernel
theorem dX8_land_103 : decode cX8_land 103 = .ok (.goto (-19), 3) := by decide +kernel
theorem dX8_land_106 : decode cX8_land 106 = .ok (.aload_n 0, 1) := by decide +kernel
theorem dX8_land_107 : decode cX8_land 107 = .ok (.invokevirtual 224, 3) := by decide +kernel
theorem dX8_land_110 : decode cX8_land 110 = .ok (.iconst 0, 1) := by decide +kernel
theorem dX8_land_111 : decode cX8_land 111 = .ok (.istore_n 2, 1) := by decide +kernel
theorem dX8_land_112 : decode cX8_land 112 = .ok (.aload_n 0, 1) := by decide +kernel
theorem dX8_land_113 : decode cX8_land 113 = .ok (.getfield 199, 3) := by decide +kernel
theorem dX8_land_116 : decode cX8_land 116 = .ok (.ifCond .ne 19, 3) := by decide +kernel
theorem dX8_land_119 : decode cX8_land 119 = .ok (.aload_n 0, 1) := by decide +kernel
theorem dX8_land_120 : decode cX8_land 120 = .ok (.getfield 173, 3) := by decide +kernel
theorem dX8_land_123 : decode cX8_land 123 = .ok (.ifCond .eq 12, 3) := by decide +kernel
theorem dX8_land_126 : decode cX8_land 126 = .ok (.aload_n 0, 1) := by decide +kernel
theorem dX8_land_127 : decode cX8_land 127 = .ok (.iload_n 2, 1) := by decide +kernel
theorem dX8_land_128 : decode cX8_land 128 = .ok (.invokevirtual 301, 3) := by decide +kernel
theorem dX8_land_131 : decode cX8_land 131 = .ok (.istore_n 2, 1) := by decide +kernel
theorem dX8_land_132 : decode cX8_land 132 = .ok (.goto (-20), 3) := by decide +kernel
theorem dX8_land_135 : decode cX8_land 135 = .ok (.aload_n 0, 1) := by decide +kernel
theorem dX8_land_136 : decode cX8_land 136 = .ok (.getfield 199, 3) := by decide +kernel
theorem dX8_land_139 : decode cX8_land 139 = .ok (.ifCond .eq 26, 3) := by decide +kernel
theorem dX8_land_142 : decode cX8_land 142 = .ok (.aload_n 0, 1) := by decide +kernel
theorem dX8_land_143 : decode cX8_land 143 = .ok (.aload_n 0, 1) := by decide +kernel
theorem dX8_land_144 : decode cX8_land 144 = .ok (.getfield 202, 3) := by decide +kernel
theorem dX8_land_147 : decode cX8_land 147 = .ok (.putfield 66, 3) := by decide +kernel
theorem dX8_land_150 : decode cX8_land 150 = .ok (.aload_n 0, 1) := by decide +kernel
theorem dX8_land_151 : decode cX8_land 151 = .ok (.getfield 60, 3) := by decide +kernel
theorem dX8_land_154 : decode cX8_land 154 = .ok (.iconst 0, 1) := by decide +kernel
theorem dX8_land_155 : decode cX8_land 155 = .ok (.dup2, 1) := by decide +kernel
theorem dX8_land_156 : decode cX8_land 156 = .ok (.iaload, 1) := by decide +kernel
theorem dX8_land_157 : decode cX8_land 157 = .ok (.iconst 1, 1) := by decide +kernel
theorem dX8_land_158 : decode cX8_land 158 = .ok (.iadd, 1) := by decide +kernel
theorem dX8_land_159 : decode cX8_land 159 = .ok (.iastore, 1) := by decide +kernel
theorem dX8_land_160 : decode cX8_land 160 = .ok (.aload_n 0, 1) := by decide +kernel
theorem dX8_land_161 : decode cX8_land 161 = .ok (.getfield 199, 3) := by decide +kernel
theorem dX8_land_164 : decode cX8_land 164 = .ok (.ireturn, 1) := by decide +kernel
theorem dX8_land_165 : decode cX8_land 165 = .ok (.aload_n 0, 1) := by decide +kernel
theorem dX8_land_166 : decode cX8_land 166 = .ok (.invokevirtual 304, 3) := by decide +kernel
theorem dX8_land_169 : decode cX8_land 169 = .ok (.iconst 0, 1) := by decide +kernel
theorem dX8_land_170 : decode cX8_land 170 = .ok (.ireturn, 1) := by decide +kernel
theorem dX8_fault_0 : decode cX8_fault 0 = .ok (.aload_n 0, 1) := by decide +kernel
theorem dX8_fault_1 : decode cX8_fault 1 = .ok (.iconst 0, 1) := by decide +kernel
theorem dX8_fault_2 : decode cX8_fault 2 = .ok (.putfield 150, 3) := by decide +kernel
theorem dX8_fault_5 : decode cX8_fault 5 = .ok (.aload_n 0, 1) := by decide +kernel
theorem dX8_fault_6 : decode cX8_fault 6 = .ok (.getfield 66, 3) := by decide +kernel
theorem dX8_fault_9 : decode cX8_fault 9 = .ok (.ireturn, 1) := by decide +kernel
theorem dX8_newsDays_0 : decode cX8_newsDays 0 = .ok (.aload_n 0, 1) := by decide +kernel
theorem dX8_newsDays_1 : decode cX8_newsDays 1 = .ok (.getfield 70, 3) := by decide +kernel
theorem dX8_newsDays_4 : decode cX8_newsDays 4 = .ok (.iload_n 1, 1) := by decide +kernel
theorem dX8_newsDays_5 : decode cX8_newsDays 5 = .ok (.iload_n 2, 1) := by decide +kernel
theorem dX8_newsDays_6 : decode cX8_newsDays 6 = .ok (.invokestatic 276, 3) := by decide +kernel
theorem dX8_newsDays_9 : decode cX8_newsDays 9 = .ok (.iaload, 1) := by decide +kernel
theorem dX8_newsDays_10 : decode cX8_newsDays 10 = .ok (.istore_n 3, 1) := by decide +kernel
theorem dX8_newsDays_11 : decode cX8_newsDays 11 = .ok (.iload_n 3, 1) := by decide +kernel
theorem dX8_newsDays_12 : decode cX8_newsDays 12 = .ok (.ldc 186, 2) := by decide +kernel
theorem dX8_newsDays_14 : decode cX8_newsDays 14 = .ok (.if_icmp .lt 8, 3) := by decide +kernel
theorem dX8_newsDays_17 : decode cX8_newsDays 17 = .ok (.ldc 186, 2) := by decide +kernel
theorem dX8_newsDays_19 : decode cX8_newsDays 19 = .ok (.goto 17, 3) := by decide +kernel
theorem dX8_newsDays_22 : decode cX8_newsDays 22 = .ok (.iload_n 3, 1) := by decide +kernel
theorem dX8_newsDays_23 : decode cX8_newsDays 23 = .ok (.aload_n 0, 1) := by decide +kernel
theorem dX8_newsDays_24 : decode cX8_newsDays 24 = .ok (.getfield 34, 3) := by decide +kernel
theorem dX8_newsDays_27 : decode cX8_newsDays 27 = .ok (.iconst 3, 1) := by decide +kernel
theorem dX8_newsDays_28 : decode cX8_newsDays 28 = .ok (.iaload, 1) := by decide +kernel
theorem dX8_newsDays_29 : decode cX8_newsDays 29 = .ok (.imul, 1) := by decide +kernel
theorem dX8_newsDays_30 : decode cX8_newsDays 30 = .ok (.bipush 9, 2) := by decide +kernel
theorem dX8_newsDays_32 : decode cX8_newsDays 32 = .ok (.iadd, 1) := by decide +kernel
theorem dX8_newsDays_33 : decode cX8_newsDays 33 = .ok (.bipush 10, 2) := by decide +kernel
theorem dX8_newsDays_35 : decode cX8_newsDays 35 = .ok (.idiv, 1) := by decide +kernel
theorem dX8_newsDays_36 : decode cX8_newsDays 36 = .ok (.ireturn, 1) := by decide +kernel
def f_X8_readCase_171   (I : Mem) : Option (Mem) :=
  bnd (upd4 I 50 0 0 12 ((I 50 0 0 12) + (1 : Int32))) fun I1' =>
  some I1'
theorem b_X8_readCase_171 (X : CX) (Q : State → Prop) {I : Mem} {P : PMem} {O : Nat → Int64} {D : Bool} {n : Nat} {r : (Mem)}  (h : f_X8_readCase_171 I = some r) (E : EndR X cX8_readCase RX8 5 (none) 5 n none r P O D Q) : Here X cX8_readCase RX8 5 (none) 5 n 171 [some (.inr (.inr (8, 0, 0))), none, none, none, none] [] I P O D n Q := by
  unfold f_X8_readCase_171 at h
  refine h_aload_n dX8_readCase_171 rfl ?_
  refine g_X8_34  dX8_readCase_172 ?_
  refine h_bipush (12 : Int32) dX8_readCase_175 k_bipush_12 ?_
  refine h_dup2 dX8_readCase_177 (fun _ => rfl) (fun _ => rfl) ?_
  refine al_50  12 cl_12 dX8_readCase_178 rfl ?_
  refine h_iconst (1 : Int32) dX8_readCase_179 k_iconst_1 ?_
  refine h_iadd dX8_readCase_180 ?_
  obtain ⟨I1', e1, h⟩ := bnd_some h
  refine as_50  12 cl_12 dX8_readCase_181 rfl ?_
  refine h_nmI e1 ?_
  cases h
  exact h_vret dX8_readCase_182 rfl E
def f_X8_readCase_136 (k70 : Mem → Int32 → Int32 → Option (Mem))  (I : Mem) (v1 : Int32) (v2 : Int32) (v3 : Int32) : Option (Mem) :=
  (f_X8_readNumber I (0 : Int32) (9 : Int32)).bind fun y1 =>
  if (y1.2 8 0 0 21) = 0 then (gd (inb (v1 + v3) 108) <|
  bnd (upd4 y1.2 57 0 0 ((v1 + v3).toNatClampNeg) y1.1) fun I1' =>
  k70 I1' v1 (v2 + (1 : Int32))) else (k70 y1.2 v1 v2)
theorem b_X8_readCase_136 (X : CX) (Q : State → Prop) {I : Mem} {P : PMem} {O : Nat → Int64} {D : Bool} {n : Nat} {k70 : Mem → Int32 → Int32 → Option (Mem)} {v1 : Int32} {v2 : Int32} {v3 : Int32} {r : (Mem)}  (H70 : ∀ (I : Mem) (v1 : Int32) (v2 : Int32), k70 I v1 v2 = some r → Here X cX8_readCase RX8 5 (none) 5 n 70 [some (.inr (.inr (8, 0, 0))), some (.inl v1), some (.inl v2), none, none] [] I P O D n Q) (h : f_X8_readCase_136 k70 I v1 v2 v3 = some r) (E : EndR X cX8_readCase RX8 5 (none) 5 n none r P O D Q) : Here X cX8_readCase RX8 5 (none) 5 n 136 [some (.inr (.inr (8, 0, 0))), some (.inl v1), some (.inl v2), some (.inl v3), none] [] I P O D n Q := by
  unfold f_X8_readCase_136 at h
  refine h_aload_n dX8_readCase_136 rfl ?_
  refine h_iconst (0 : Int32) dX8_readCase_137 k_iconst_0 ?_
  refine h_bipush (9 : Int32) dX8_readCase_138 k_bipush_9 ?_
  obtain ⟨y1, hh1, h⟩ := obd_some h
  refine h_cVi [.inl (0 : Int32), .inl (9 : Int32)] (m_X8_readNumber  hh1) cw_X8_230 dX8_readCase_140 rfl ok_8 (by decide) rfl (Or.inr rfl) rfl ?_
  refine h_istore dX8_readCase_143 (by decide) rfl ?_
  refine h_aload_n dX8_readCase_145 rfl ?_
  refine g_X8_199  dX8_readCase_146 ?_
  refine h_if_eq (tgt := 155) dX8_readCase_149 (by decide) (fun q1 => ?_) (fun q1 => ?_)
  · rw [if_pos q1] at h
    refine h_aload_n dX8_readCase_155 rfl ?_
    refine g_X8_55  dX8_readCase_156 ?_
    refine h_iload_n dX8_readCase_159 rfl ?_
    refine h_iload_n dX8_readCase_160 rfl ?_
    refine h_iadd dX8_readCase_161 ?_
    refine h_iload dX8_readCase_162 rfl ?_
    obtain ⟨g1, h⟩ := gd_some h
    obtain ⟨I1', e1, h⟩ := bnd_some h
    refine as_57  ((v1 + v3).toNatClampNeg) rfl dX8_readCase_164 g1 ?_
    refine h_nmI e1 ?_
    refine h_iinc (1 : Int32) dX8_readCase_165 rfl k_iinc_1 (by decide) rfl ?_
    refine h_goto (tgt := 70) dX8_readCase_168 (by decide) ?_
    exact h_mask [true, true, true, false, false] (H70 _ _ _ h)
  · rw [if_neg q1] at h
    refine h_goto (tgt := 70) dX8_readCase_152 (by decide) ?_
    exact h_mask [true, true, true, false, false] (H70 _ _ _ h)
def f_X8_readCase_125 (k70 : Mem → Int32 → Int32 → Option (Mem))  (I : Mem) (v1 : Int32) (v2 : Int32) (v3 : Int32) : Option (Mem) :=
  if (I 8 0 0 21) = 0 then ((f_X8_stepOn I).bind fun y1 =>
  f_X8_readCase_136 k70 y1 v1 v2 v3) else (f_X8_readCase_136 k70 I v1 v2 v3)
theorem b_X8_readCase_125 (X : CX) (Q : State → Prop) {I : Mem} {P : PMem} {O : Nat → Int64} {D : Bool} {n : Nat} {k70 : Mem → Int32 → Int32 → Option (Mem)} {v1 : Int32} {v2 : Int32} {v3 : Int32} {r : (Mem)}  (H70 : ∀ (I : Mem) (v1 : Int32) (v2 : Int32), k70 I v1 v2 = some r → Here X cX8_readCase RX8 5 (none) 5 n 70 [some (.inr (.inr (8, 0, 0))), some (.inl v1), some (.inl v2), none, none] [] I P O D n Q) (h : f_X8_readCase_125 k70 I v1 v2 v3 = some r) (E : EndR X cX8_readCase RX8 5 (none) 5 n none r P O D Q) : Here X cX8_readCase RX8 5 (none) 5 n 125 [some (.inr (.inr (8, 0, 0))), some (.inl v1), some (.inl v2), some (.inl v3), none] [] I P O D n Q := by
  unfold f_X8_readCase_125 at h
  refine h_aload_n dX8_readCase_125 rfl ?_
  refine g_X8_199  dX8_readCase_126 ?_
  refine h_if_ne (tgt := 136) dX8_readCase_129 (by decide) (fun q1 => ?_) (fun q1 => ?_)
  · rw [if_neg q1] at h
    exact (b_X8_readCase_136 X Q H70  h E)
  · rw [if_pos q1] at h
    refine h_aload_n dX8_readCase_132 rfl ?_
    obtain ⟨y1, hh1, h⟩ := obd_some h
    refine h_cVv [] (m_X8_stepOn  hh1) cw_X8_224 dX8_readCase_133 rfl ok_8 (by decide) rfl (Or.inr rfl) rfl ?_
    exact (b_X8_readCase_136 X Q H70  h E)
def f_X8_readCase_96 (k70 : Mem → Int32 → Int32 → Option (Mem))  (I : Mem) (v1 : Int32) (v2 : Int32) : Option (Mem) :=
  (f_X8_townNow I).bind fun y1 =>
  if (y1.2 8 0 0 21) = 0 then (gd (inb (v1 + y1.1) 108) <|
  if (y1.2 57 0 0 ((v1 + y1.1).toNatClampNeg)) = (-1 : Int32) then (f_X8_readCase_125 k70 y1.2 v1 v2 y1.1) else ((f_X8_wrong y1.2 (4 : Int32)).bind fun y2 =>
  f_X8_readCase_125 k70 y2 v1 v2 y1.1)) else (f_X8_readCase_125 k70 y1.2 v1 v2 y1.1)
theorem b_X8_readCase_96 (X : CX) (Q : State → Prop) {I : Mem} {P : PMem} {O : Nat → Int64} {D : Bool} {n : Nat} {k70 : Mem → Int32 → Int32 → Option (Mem)} {v1 : Int32} {v2 : Int32} {r : (Mem)}  (H70 : ∀ (I : Mem) (v1 : Int32) (v2 : Int32), k70 I v1 v2 = some r → Here X cX8_readCase RX8 5 (none) 5 n 70 [some (.inr (.inr (8, 0, 0))), some (.inl v1), some (.inl v2), none, none] [] I P O D n Q) (h : f_X8_readCase_96 k70 I v1 v2 = some r) (E : EndR X cX8_readCase RX8 5 (none) 5 n none r P O D Q) : Here X cX8_readCase RX8 5 (none) 5 n 96 [some (.inr (.inr (8, 0, 0))), some (.inl v1), some (.inl v2), none, none] [] I P O D n Q := by
  unfold f_X8_readCase_96 at h
  refine h_aload_n dX8_readCase_96 rfl ?_
  obtain ⟨y1, hh1, h⟩ := obd_some h
  refine h_cVi [] (m_X8_townNow  hh1) cw_X8_273 dX8_readCase_97 rfl ok_8 (by decide) rfl (Or.inr rfl) rfl ?_
  refine h_istore_n dX8_readCase_100 (by decide) rfl ?_
  refine h_aload_n dX8_readCase_101 rfl ?_
  refine g_X8_199  dX8_readCase_102 ?_
  refine h_if_ne (tgt := 125) dX8_readCase_105 (by decide) (fun q1 => ?_) (fun q1 => ?_)
  · rw [if_neg q1] at h
    exact (b_X8_readCase_125 X Q H70  h E)
  · rw [if_pos q1] at h
    refine h_aload_n dX8_readCase_108 rfl ?_
    refine g_X8_55  dX8_readCase_109 ?_
    refine h_iload_n dX8_readCase_112 rfl ?_
    refine h_iload_n dX8_readCase_113 rfl ?_
    refine h_iadd dX8_readCase_114 ?_
    obtain ⟨g1, h⟩ := gd_some h
    refine al_57  ((v1 + y1.1).toNatClampNeg) rfl dX8_readCase_115 g1 ?_
    refine h_iconst (-1 : Int32) dX8_readCase_116 k_iconst_m1 ?_
    refine h_icmp_eq (tgt := 125) dX8_readCase_117 (by decide) (fun q2 => ?_) (fun q2 => ?_)
    · rw [if_pos q2] at h
      exact (b_X8_readCase_125 X Q H70  h E)
    · rw [if_neg q2] at h
      refine h_aload_n dX8_readCase_120 rfl ?_
      refine h_iconst (4 : Int32) dX8_readCase_121 k_iconst_4 ?_
      obtain ⟨y2, hh2, h⟩ := obd_some h
      refine h_cVv [.inl (4 : Int32)] (m_X8_wrong  hh2) cw_X8_220 dX8_readCase_122 rfl ok_8 (by decide) rfl (Or.inr rfl) rfl ?_
      exact (b_X8_readCase_125 X Q H70  h E)
def f_X8_readCase_70   : Nat → Mem → Int32 → Int32 → Option (Mem)
  | 0, _, _, _ => none
  | fu + 1, I, v1, v2 =>
    if (I 8 0 0 21) = 0 then (if (I 8 0 0 17) = (2 : Int32) then (if v2 = (6 : Int32) then ((f_X8_wrong I (2 : Int32)).bind fun y1 =>
    f_X8_readCase_96 (f_X8_readCase_70 fu) y1 v1 v2) else (f_X8_readCase_96 (f_X8_readCase_70 fu) I v1 v2)) else (f_X8_readCase_171 I)) else (f_X8_readCase_171 I)
theorem b_X8_readCase_70 (X : CX) (Q : State → Prop) {P : PMem} {O : Nat → Int64} {D : Bool} {n : Nat} {r : (Mem)}  : ∀ (fu : Nat) {I : Mem} {v1 : Int32} {v2 : Int32}, f_X8_readCase_70 fu I v1 v2 = some r → EndR X cX8_readCase RX8 5 (none) 5 n none r P O D Q → Here X cX8_readCase RX8 5 (none) 5 n 70 [some (.inr (.inr (8, 0, 0))), some (.inl v1), some (.inl v2), none, none] [] I P O D n Q := by
  intro fu
  induction fu with
  | zero => intro I v1 v2 h E; cases h
  | succ fu ih =>
  intro I v1 v2 h E
  have H70 : ∀ (I : Mem) (v1 : Int32) (v2 : Int32), f_X8_readCase_70 fu I v1 v2 = some r → Here X cX8_readCase RX8 5 (none) 5 n 70 [some (.inr (.inr (8, 0, 0))), some (.inl v1), some (.inl v2), none, none] [] I P O D n Q := fun _ _ _ b => ih b E
  simp only [f_X8_readCase_70] at h
  refine h_aload_n dX8_readCase_70 rfl ?_
  refine g_X8_199  dX8_readCase_71 ?_
  refine h_if_ne (tgt := 171) dX8_readCase_74 (by decide) (fun q1 => ?_) (fun q1 => ?_)
  · rw [if_neg q1] at h
    exact h_mask [true, false, false, false, false] (b_X8_readCase_171 X Q  h E)
  · rw [if_pos q1] at h
    refine h_aload_n dX8_readCase_77 rfl ?_
    refine g_X8_173  dX8_readCase_78 ?_
    refine h_iconst (2 : Int32) dX8_readCase_81 k_iconst_2 ?_
    refine h_icmp_ne (tgt := 171) dX8_readCase_82 (by decide) (fun q2 => ?_) (fun q2 => ?_)
    · rw [if_neg q2] at h
      exact h_mask [true, false, false, false, false] (b_X8_readCase_171 X Q  h E)
    · rw [if_pos q2] at h
      refine h_iload_n dX8_readCase_85 rfl ?_
      refine h_bipush (6 : Int32) dX8_readCase_86 k_bipush_6 ?_
      refine h_icmp_ne (tgt := 96) dX8_readCase_88 (by decide) (fun q3 => ?_) (fun q3 => ?_)
      · rw [if_neg q3] at h
        exact (b_X8_readCase_96 X Q H70  h E)
      · rw [if_pos q3] at h
        refine h_aload_n dX8_readCase_91 rfl ?_
        refine h_iconst (2 : Int32) dX8_readCase_92 k_iconst_2 ?_
        obtain ⟨y1, hh1, h⟩ := obd_some h
        refine h_cVv [.inl (2 : Int32)] (m_X8_wrong  hh1) cw_X8_220 dX8_readCase_93 rfl ok_8 (by decide) rfl (Or.inr rfl) rfl ?_
        exact (b_X8_readCase_96 X Q H70  h E)
def f_X8_readCase_27   : Nat → Mem → Int32 → Int32 → Option (Mem)
  | 0, _, _, _ => none
  | fu + 1, I, v1, v2 =>
    if (9 : Int32) ≤ v2 then (if (I 8 0 0 21) = 0 then (if (I 8 0 0 17) = (2 : Int32) then (f_X8_readCase_70 FU I v1 (0 : Int32)) else ((f_X8_wrong I (1 : Int32)).bind fun y1 =>
    f_X8_readCase_70 FU y1 v1 (0 : Int32))) else (f_X8_readCase_70 FU I v1 (0 : Int32))) else (gd (inb (v1 + v2) 108) <|
    bnd (upd4 I 57 0 0 ((v1 + v2).toNatClampNeg) (-1 : Int32)) fun I1' =>
    (f_X8_readCase_27 fu) I1' v1 (v2 + (1 : Int32)))
theorem b_X8_readCase_27 (X : CX) (Q : State → Prop) {P : PMem} {O : Nat → Int64} {D : Bool} {n : Nat} {r : (Mem)}  : ∀ (fu : Nat) {I : Mem} {v1 : Int32} {v2 : Int32}, f_X8_readCase_27 fu I v1 v2 = some r → EndR X cX8_readCase RX8 5 (none) 5 n none r P O D Q → Here X cX8_readCase RX8 5 (none) 5 n 27 [some (.inr (.inr (8, 0, 0))), some (.inl v1), some (.inl v2), none, none] [] I P O D n Q := by
  intro fu
  induction fu with
  | zero => intro I v1 v2 h E; cases h
  | succ fu ih =>
  intro I v1 v2 h E
  have H27 : ∀ (I : Mem) (v1 : Int32) (v2 : Int32), f_X8_readCase_27 fu I v1 v2 = some r → Here X cX8_readCase RX8 5 (none) 5 n 27 [some (.inr (.inr (8, 0, 0))), some (.inl v1), some (.inl v2), none, none] [] I P O D n Q := fun _ _ _ b => ih b E
  simp only [f_X8_readCase_27] at h
  refine h_iload_n dX8_readCase_27 rfl ?_
  refine h_bipush (9 : Int32) dX8_readCase_28 k_bipush_9 ?_
  refine h_icmp_ge (tgt := 48) dX8_readCase_30 (by decide) (fun q1 => ?_) (fun q1 => ?_)
  · rw [if_pos q1] at h
    refine h_iconst (0 : Int32) dX8_readCase_48 k_iconst_0 ?_
    refine h_istore_n dX8_readCase_49 (by decide) rfl ?_
    refine h_aload_n dX8_readCase_50 rfl ?_
    refine g_X8_199  dX8_readCase_51 ?_
    refine h_if_ne (tgt := 70) dX8_readCase_54 (by decide) (fun q2 => ?_) (fun q2 => ?_)
    · rw [if_neg q2] at h
      exact (b_X8_readCase_70 X Q FU  h E)
    · rw [if_pos q2] at h
      refine h_aload_n dX8_readCase_57 rfl ?_
      refine g_X8_173  dX8_readCase_58 ?_
      refine h_iconst (2 : Int32) dX8_readCase_61 k_iconst_2 ?_
      refine h_icmp_eq (tgt := 70) dX8_readCase_62 (by decide) (fun q3 => ?_) (fun q3 => ?_)
      · rw [if_pos q3] at h
        exact (b_X8_readCase_70 X Q FU  h E)
      · rw [if_neg q3] at h
        refine h_aload_n dX8_readCase_65 rfl ?_
        refine h_iconst (1 : Int32) dX8_readCase_66 k_iconst_1 ?_
        obtain ⟨y1, hh1, h⟩ := obd_some h
        refine h_cVv [.inl (1 : Int32)] (m_X8_wrong  hh1) cw_X8_220 dX8_readCase_67 rfl ok_8 (by decide) rfl (Or.inr rfl) rfl ?_
        exact (b_X8_readCase_70 X Q FU  h E)
  · rw [if_neg q1] at h
    refine h_aload_n dX8_readCase_33 rfl ?_
    refine g_X8_55  dX8_readCase_34 ?_
    refine h_iload_n dX8_readCase_37 rfl ?_
    refine h_iload_n dX8_readCase_38 rfl ?_
    refine h_iadd dX8_readCase_39 ?_
    refine h_iconst (-1 : Int32) dX8_readCase_40 k_iconst_m1 ?_
    obtain ⟨g1, h⟩ := gd_some h
    obtain ⟨I1', e1, h⟩ := bnd_some h
    refine as_57  ((v1 + v2).toNatClampNeg) rfl dX8_readCase_41 g1 ?_
    refine h_nmI e1 ?_
    refine h_iinc (1 : Int32) dX8_readCase_42 rfl k_iinc_1 (by decide) rfl ?_
    refine h_goto (tgt := 27) dX8_readCase_45 (by decide) ?_
    exact (H27 _ _ _ h)
def f_X8_readCase   (I : Mem) : Option (Mem) :=
  (f_X8_another I (5 : Int32) (6 : Int32)).bind fun y1 =>
  if y1.1 = 0 then (some y1.2) else (bnd ((9 : Int32) * ((6 : Int32) + (y1.2 50 0 0 12))) fun x1 =>
  f_X8_readCase_27 FU y1.2 x1 (0 : Int32))
theorem b_X8_readCase (X : CX) (Q : State → Prop) {I : Mem} {P : PMem} {O : Nat → Int64} {D : Bool} {n : Nat} {r : (Mem)}  (h : f_X8_readCase I = some r) (E : EndR X cX8_readCase RX8 5 (none) 5 n none r P O D Q) : Here X cX8_readCase RX8 5 (none) 5 n 0 [some (.inr (.inr (8, 0, 0))), none, none, none, none] [] I P O D n Q := by
  unfold f_X8_readCase at h
  refine h_aload_n dX8_readCase_0 rfl ?_
  refine h_iconst (5 : Int32) dX8_readCase_1 k_iconst_5 ?_
  refine h_bipush (6 : Int32) dX8_readCase_2 k_bipush_6 ?_
  obtain ⟨y1, hh1, h⟩ := obd_some h
  refine h_cVi [.inl (5 : Int32), .inl (6 : Int32)] (m_X8_another  hh1) cw_X8_267 dX8_readCase_4 rfl ok_8 (by decide) rfl (Or.inr rfl) rfl ?_
  refine h_if_ne (tgt := 11) dX8_readCase_7 (by decide) (fun q1 => ?_) (fun q1 => ?_)
  · rw [if_neg q1] at h
    refine h_bipush (9 : Int32) dX8_readCase_11 k_bipush_9 ?_
    refine h_bipush (6 : Int32) dX8_readCase_13 k_bipush_6 ?_
    refine h_aload_n dX8_readCase_15 rfl ?_
    refine g_X8_34  dX8_readCase_16 ?_
    refine h_bipush (12 : Int32) dX8_readCase_19 k_bipush_12 ?_
    refine al_50  12 cl_12 dX8_readCase_21 rfl ?_
    refine h_iadd dX8_readCase_22 ?_
    refine h_imul dX8_readCase_23 ?_
    obtain ⟨x1, e1, h⟩ := bnd_some h
    refine h_nmv e1 ?_
    refine h_istore_n dX8_readCase_24 (by decide) rfl ?_
    refine h_iconst (0 : Int32) dX8_readCase_25 k_iconst_0 ?_
    refine h_istore_n dX8_readCase_26 (by decide) rfl ?_
    exact (b_X8_readCase_27 X Q FU  h E)
  · rw [if_pos q1] at h
    cases h
    exact h_vret dX8_readCase_10 rfl E
theorem m_X8_readCase {I : Mem} {P : PMem} {O : Nat → Int64} {D : Bool} {n : Nat}  {r : (Mem)}  (h : f_X8_readCase I = some r) : MethR yX8_readCase cX8_readCase 5 (none) 5 [.inr (.inr (8, 0, 0))] I P O D n none r P O D n := meth_R (Nat.le_refl _) (by decide) rfl (Nat.le_of_ble_eq_true rfl) rfl (fun X Q E => b_X8_readCase X Q  h E)
def f_X8_readLine_163   (I : Mem) (v1 : Int32) (v2 : Int32) : Option (Int32 × Mem) :=
  (f_X8_mark I (59 : Int32)).bind fun y1 =>
  some ((v1 ||| v2), y1)
theorem b_X8_readLine_163 (X : CX) (Q : State → Prop) {I : Mem} {P : PMem} {O : Nat → Int64} {D : Bool} {n : Nat} {v1 : Int32} {v2 : Int32} {r : (Int32 × Mem)}  (h : f_X8_readLine_163 I v1 v2 = some r) (E : EndR X cX8_readLine RX8 4 (some .int) 161 n (some (.inl r.1)) r.2 P O D Q) : Here X cX8_readLine RX8 4 (some .int) 161 n 163 [some (.inr (.inr (8, 0, 0))), some (.inl v1), some (.inl v2), none] [] I P O D n Q := by
  unfold f_X8_readLine_163 at h
  refine h_aload_n dX8_readLine_163 rfl ?_
  refine h_bipush (59 : Int32) dX8_readLine_164 k_bipush_59 ?_
  obtain ⟨y1, hh1, h⟩ := obd_some h
  refine h_cVv [.inl (59 : Int32)] (m_X8_mark  hh1) cw_X8_240 dX8_readLine_166 rfl ok_8 (by decide) rfl (Or.inr rfl) rfl ?_
  refine h_iload_n dX8_readLine_169 rfl ?_
  refine h_iload_n dX8_readLine_170 rfl ?_
  refine h_ior dX8_readLine_171 ?_
  cases h
  exact h_iret dX8_readLine_172 rfl E
def f_X8_readLine_65   (I : Mem) (v1 : Int32) (v2 : Int32) : Option (Int32 × Mem) :=
  if v2 = (1 : Int32) then ((f_X8_readNumber I (1 : Int32) (40 : Int32)).bind fun y2 =>
  bnd (upd4 y2.2 50 0 0 10 y2.1) fun I1' =>
  f_X8_readLine_163 I1' v1 v2) else ((F_X8_readExpression 8 I (0 : Int32)).bind fun y1 =>
  f_X8_readLine_163 y1 v1 v2)
theorem b_X8_readLine_65 (X : CX) (Q : State → Prop) {I : Mem} {P : PMem} {O : Nat → Int64} {D : Bool} {n : Nat} {v1 : Int32} {v2 : Int32} {r : (Int32 × Mem)}  (h : f_X8_readLine_65 I v1 v2 = some r) (E : EndR X cX8_readLine RX8 4 (some .int) 161 n (some (.inl r.1)) r.2 P O D Q) : Here X cX8_readLine RX8 4 (some .int) 161 n 65 [some (.inr (.inr (8, 0, 0))), some (.inl v1), some (.inl v2), none] [] I P O D n Q := by
  unfold f_X8_readLine_65 at h
  refine h_iload_n dX8_readLine_65 rfl ?_
  refine h_iconst (1 : Int32) dX8_readLine_66 k_iconst_1 ?_
  refine h_icmp_ne (tgt := 87) dX8_readLine_67 (by decide) (fun q1 => ?_) (fun q1 => ?_)
  · rw [if_neg q1] at h
    refine h_aload_n dX8_readLine_87 rfl ?_
    refine h_iconst (0 : Int32) dX8_readLine_88 k_iconst_0 ?_
    obtain ⟨y1, hh1, h⟩ := obd_some h
    refine h_cVv [.inl (0 : Int32)] (mF_X8_readExpression 8  hh1) cw_X8_243 dX8_readLine_89 rfl ok_8 (by decide) rfl (Or.inr rfl) rfl ?_
    refine h_goto (tgt := 163) dX8_readLine_92 (by decide) ?_
    exact (b_X8_readLine_163 X Q  h E)
  · rw [if_pos q1] at h
    refine h_aload_n dX8_readLine_70 rfl ?_
    refine g_X8_34  dX8_readLine_71 ?_
    refine h_bipush (10 : Int32) dX8_readLine_74 k_bipush_10 ?_
    refine h_aload_n dX8_readLine_76 rfl ?_
    refine h_iconst (1 : Int32) dX8_readLine_77 k_iconst_1 ?_
    refine h_bipush (40 : Int32) dX8_readLine_78 k_bipush_40 ?_
    obtain ⟨y2, hh2, h⟩ := obd_some h
    refine h_cVi [.inl (1 : Int32), .inl (40 : Int32)] (m_X8_readNumber  hh2) cw_X8_230 dX8_readLine_80 rfl ok_8 (by decide) rfl (Or.inr rfl) rfl ?_
    obtain ⟨I1', e1, h⟩ := bnd_some h
    refine as_50  10 cl_10 dX8_readLine_83 rfl ?_
    refine h_nmI e1 ?_
    refine h_goto (tgt := 163) dX8_readLine_84 (by decide) ?_
    exact (b_X8_readLine_163 X Q  h E)
def f_X8_readLine_50   (I : Mem) (v1 : Int32) (v2 : Int32) (v3 : Int32) : Option (Int32 × Mem) :=
  if v2 ≤ 0 then (if v3 = (-1 : Int32) then ((f_X8_is I 6).bind fun y1 =>
  if y1 = 0 then ((f_X8_is I 23).bind fun y2 =>
  if y2 = 0 then ((f_X8_is I 10).bind fun y3 =>
  if y3 = 0 then ((f_X8_wrong I (1 : Int32)).bind fun y4 =>
  f_X8_readLine_163 y4 v1 v2) else ((f_X8_readCase I).bind fun y5 =>
  f_X8_readLine_163 y5 v1 v2)) else ((f_X8_readRoad I).bind fun y6 =>
  f_X8_readLine_163 y6 v1 v2)) else ((f_X8_readTown I).bind fun y7 =>
  f_X8_readLine_163 y7 v1 v2)) else ((f_X8_readJudge I v3).bind fun y8 =>
  f_X8_readLine_163 y8 v1 v2)) else (if (I 8 0 0 21) = 0 then ((f_X8_stepOn I).bind fun y9 =>
  f_X8_readLine_65 y9 v1 v2) else (f_X8_readLine_65 I v1 v2))
theorem b_X8_readLine_50 (X : CX) (Q : State → Prop) {I : Mem} {P : PMem} {O : Nat → Int64} {D : Bool} {n : Nat} {v1 : Int32} {v2 : Int32} {v3 : Int32} {r : (Int32 × Mem)}  (h : f_X8_readLine_50 I v1 v2 v3 = some r) (E : EndR X cX8_readLine RX8 4 (some .int) 161 n (some (.inl r.1)) r.2 P O D Q) : Here X cX8_readLine RX8 4 (some .int) 161 n 50 [some (.inr (.inr (8, 0, 0))), some (.inl v1), some (.inl v2), some (.inl v3)] [] I P O D n Q := by
  unfold f_X8_readLine_50 at h
  refine h_iload_n dX8_readLine_50 rfl ?_
  refine h_if_le (tgt := 95) dX8_readLine_51 (by decide) (fun q1 => ?_) (fun q1 => ?_)
  · rw [if_pos q1] at h
    refine h_iload_n dX8_readLine_95 rfl ?_
    refine h_iconst (-1 : Int32) dX8_readLine_96 k_iconst_m1 ?_
    refine h_icmp_eq (tgt := 108) dX8_readLine_97 (by decide) (fun q2 => ?_) (fun q2 => ?_)
    · rw [if_pos q2] at h
      refine h_aload_n dX8_readLine_108 rfl ?_
      refine h_ldcs (text := "town") (j := 6) dX8_readLine_109 (by decide) ?_
      obtain ⟨y1, hh1, h⟩ := obd_some h
      refine h_cVi [.inr (.inr (90, 6, 0))] (m_X8_is (by decide) hh1) cw_X8_213 dX8_readLine_111 rfl ok_8 (by decide) rfl (Or.inr rfl) rfl ?_
      refine h_if_eq (tgt := 124) dX8_readLine_114 (by decide) (fun q3 => ?_) (fun q3 => ?_)
      · rw [if_pos q3] at h
        refine h_aload_n dX8_readLine_124 rfl ?_
        refine h_ldcws (text := "road") (j := 23) dX8_readLine_125 (by decide) ?_
        obtain ⟨y2, hh2, h⟩ := obd_some h
        refine h_cVi [.inr (.inr (90, 23, 0))] (m_X8_is (by decide) hh2) cw_X8_213 dX8_readLine_128 rfl ok_8 (by decide) rfl (Or.inr rfl) rfl ?_
        refine h_if_eq (tgt := 141) dX8_readLine_131 (by decide) (fun q4 => ?_) (fun q4 => ?_)
        · rw [if_pos q4] at h
          refine h_aload_n dX8_readLine_141 rfl ?_
          refine h_ldcws (text := "case") (j := 10) dX8_readLine_142 (by decide) ?_
          obtain ⟨y3, hh3, h⟩ := obd_some h
          refine h_cVi [.inr (.inr (90, 10, 0))] (m_X8_is (by decide) hh3) cw_X8_213 dX8_readLine_145 rfl ok_8 (by decide) rfl (Or.inr rfl) rfl ?_
          refine h_if_eq (tgt := 158) dX8_readLine_148 (by decide) (fun q5 => ?_) (fun q5 => ?_)
          · rw [if_pos q5] at h
            refine h_aload_n dX8_readLine_158 rfl ?_
            refine h_iconst (1 : Int32) dX8_readLine_159 k_iconst_1 ?_
            obtain ⟨y4, hh4, h⟩ := obd_some h
            refine h_cVv [.inl (1 : Int32)] (m_X8_wrong  hh4) cw_X8_220 dX8_readLine_160 rfl ok_8 (by decide) rfl (Or.inr rfl) rfl ?_
            exact h_mask [true, true, true, false] (b_X8_readLine_163 X Q  h E)
          · rw [if_neg q5] at h
            refine h_aload_n dX8_readLine_151 rfl ?_
            obtain ⟨y5, hh5, h⟩ := obd_some h
            refine h_cVv [] (m_X8_readCase  hh5) cw_X8_295 dX8_readLine_152 rfl ok_8 (by decide) rfl (Or.inr rfl) rfl ?_
            refine h_goto (tgt := 163) dX8_readLine_155 (by decide) ?_
            exact h_mask [true, true, true, false] (b_X8_readLine_163 X Q  h E)
        · rw [if_neg q4] at h
          refine h_aload_n dX8_readLine_134 rfl ?_
          obtain ⟨y6, hh6, h⟩ := obd_some h
          refine h_cVv [] (m_X8_readRoad  hh6) cw_X8_290 dX8_readLine_135 rfl ok_8 (by decide) rfl (Or.inr rfl) rfl ?_
          refine h_goto (tgt := 163) dX8_readLine_138 (by decide) ?_
          exact h_mask [true, true, true, false] (b_X8_readLine_163 X Q  h E)
      · rw [if_neg q3] at h
        refine h_aload_n dX8_readLine_117 rfl ?_
        obtain ⟨y7, hh7, h⟩ := obd_some h
        refine h_cVv [] (m_X8_readTown  hh7) cw_X8_286 dX8_readLine_118 rfl ok_8 (by decide) rfl (Or.inr rfl) rfl ?_
        refine h_goto (tgt := 163) dX8_readLine_121 (by decide) ?_
        exact h_mask [true, true, true, false] (b_X8_readLine_163 X Q  h E)
    · rw [if_neg q2] at h
      refine h_aload_n dX8_readLine_100 rfl ?_
      refine h_iload_n dX8_readLine_101 rfl ?_
      obtain ⟨y8, hh8, h⟩ := obd_some h
      refine h_cVv [.inl v3] (m_X8_readJudge  hh8) cw_X8_283 dX8_readLine_102 rfl ok_8 (by decide) rfl (Or.inr rfl) rfl ?_
      refine h_goto (tgt := 163) dX8_readLine_105 (by decide) ?_
      exact h_mask [true, true, true, false] (b_X8_readLine_163 X Q  h E)
  · rw [if_neg q1] at h
    refine h_aload_n dX8_readLine_54 rfl ?_
    refine g_X8_199  dX8_readLine_55 ?_
    refine h_if_ne (tgt := 65) dX8_readLine_58 (by decide) (fun q6 => ?_) (fun q6 => ?_)
    · rw [if_neg q6] at h
      exact h_mask [true, true, true, false] (b_X8_readLine_65 X Q  h E)
    · rw [if_pos q6] at h
      refine h_aload_n dX8_readLine_61 rfl ?_
      obtain ⟨y9, hh9, h⟩ := obd_some h
      refine h_cVv [] (m_X8_stepOn  hh9) cw_X8_224 dX8_readLine_62 rfl ok_8 (by decide) rfl (Or.inr rfl) rfl ?_
      exact h_mask [true, true, true, false] (b_X8_readLine_65 X Q  h E)
def f_X8_readLine_29   (I : Mem) (v1 : Int32) (s0 : Int32) : Option (Int32 × Mem) :=
  (f_X8_which I 48).bind fun y1 =>
  if (s0 &&& v1) = 0 then (f_X8_readLine_50 I v1 s0 y1) else ((f_X8_wrong I (5 : Int32)).bind fun y2 =>
  f_X8_readLine_50 y2 v1 s0 y1)
theorem b_X8_readLine_29 (X : CX) (Q : State → Prop) {I : Mem} {P : PMem} {O : Nat → Int64} {D : Bool} {n : Nat} {v1 : Int32} {s0 : Int32} {r : (Int32 × Mem)}  (h : f_X8_readLine_29 I v1 s0 = some r) (E : EndR X cX8_readLine RX8 4 (some .int) 161 n (some (.inl r.1)) r.2 P O D Q) : Here X cX8_readLine RX8 4 (some .int) 161 n 29 [some (.inr (.inr (8, 0, 0))), some (.inl v1), none, none] [.inl s0] I P O D n Q := by
  unfold f_X8_readLine_29 at h
  refine h_istore_n dX8_readLine_29 (by decide) rfl ?_
  refine h_aload_n dX8_readLine_30 rfl ?_
  refine h_aload_n dX8_readLine_31 rfl ?_
  refine g_X8_17  dX8_readLine_32 ?_
  obtain ⟨y1, hh1, h⟩ := obd_some h
  refine h_cVi [.inr (.inr (48, 0, 0))] (m_X8_which (Or.inl rfl) hh1) cw_X8_236 dX8_readLine_35 rfl ok_8 (by decide) rfl (Or.inr rfl) rfl ?_
  refine h_istore_n dX8_readLine_38 (by decide) rfl ?_
  refine h_iload_n dX8_readLine_39 rfl ?_
  refine h_iload_n dX8_readLine_40 rfl ?_
  refine h_iand dX8_readLine_41 ?_
  refine h_if_eq (tgt := 50) dX8_readLine_42 (by decide) (fun q1 => ?_) (fun q1 => ?_)
  · rw [if_pos q1] at h
    exact (b_X8_readLine_50 X Q  h E)
  · rw [if_neg q1] at h
    refine h_aload_n dX8_readLine_45 rfl ?_
    refine h_iconst (5 : Int32) dX8_readLine_46 k_iconst_5 ?_
    obtain ⟨y2, hh2, h⟩ := obd_some h
    refine h_cVv [.inl (5 : Int32)] (m_X8_wrong  hh2) cw_X8_220 dX8_readLine_47 rfl ok_8 (by decide) rfl (Or.inr rfl) rfl ?_
    exact (b_X8_readLine_50 X Q  h E)
def f_X8_readLine   (I : Mem) (v1 : Int32) : Option (Int32 × Mem) :=
  (f_X8_is I 11).bind fun y1 =>
  if y1 = 0 then ((f_X8_is I 13).bind fun y2 =>
  if y2 = 0 then (f_X8_readLine_29 I v1 (0 : Int32)) else (f_X8_readLine_29 I v1 (2 : Int32))) else (f_X8_readLine_29 I v1 (1 : Int32))
theorem b_X8_readLine (X : CX) (Q : State → Prop) {I : Mem} {P : PMem} {O : Nat → Int64} {D : Bool} {n : Nat} {v1 : Int32} {r : (Int32 × Mem)}  (h : f_X8_readLine I v1 = some r) (E : EndR X cX8_readLine RX8 4 (some .int) 161 n (some (.inl r.1)) r.2 P O D Q) : Here X cX8_readLine RX8 4 (some .int) 161 n 0 [some (.inr (.inr (8, 0, 0))), some (.inl v1), none, none] [] I P O D n Q := by
  unfold f_X8_readLine at h
  refine h_aload_n dX8_readLine_0 rfl ?_
  refine h_ldcws (text := "gossip") (j := 11) dX8_readLine_1 (by decide) ?_
  obtain ⟨y1, hh1, h⟩ := obd_some h
  refine h_cVi [.inr (.inr (90, 11, 0))] (m_X8_is (by decide) hh1) cw_X8_213 dX8_readLine_4 rfl ok_8 (by decide) rfl (Or.inr rfl) rfl ?_
  refine h_if_eq (tgt := 14) dX8_readLine_7 (by decide) (fun q1 => ?_) (fun q1 => ?_)
  · rw [if_pos q1] at h
    refine h_aload_n dX8_readLine_14 rfl ?_
    refine h_ldcws (text := "law") (j := 13) dX8_readLine_15 (by decide) ?_
    obtain ⟨y2, hh2, h⟩ := obd_some h
    refine h_cVi [.inr (.inr (90, 13, 0))] (m_X8_is (by decide) hh2) cw_X8_213 dX8_readLine_18 rfl ok_8 (by decide) rfl (Or.inr rfl) rfl ?_
    refine h_if_eq (tgt := 28) dX8_readLine_21 (by decide) (fun q2 => ?_) (fun q2 => ?_)
    · rw [if_pos q2] at h
      refine h_iconst (0 : Int32) dX8_readLine_28 k_iconst_0 ?_
      exact (b_X8_readLine_29 X Q  h E)
    · rw [if_neg q2] at h
      refine h_iconst (2 : Int32) dX8_readLine_24 k_iconst_2 ?_
      refine h_goto (tgt := 29) dX8_readLine_25 (by decide) ?_
      exact (b_X8_readLine_29 X Q  h E)
  · rw [if_neg q1] at h
    refine h_iconst (1 : Int32) dX8_readLine_10 k_iconst_1 ?_
    refine h_goto (tgt := 29) dX8_readLine_11 (by decide) ?_
    exact (b_X8_readLine_29 X Q  h E)
theorem m_X8_readLine {I : Mem} {P : PMem} {O : Nat → Int64} {D : Bool} {n : Nat} {v1 : Int32} {r : (Int32 × Mem)}  (h : f_X8_readLine I v1 = some r) : MethR yX8_readLine cX8_readLine 4 (some .int) 161 [.inr (.inr (8, 0, 0)), .inl v1] I P O D n (some (.inl r.1)) r.2 P O D n := meth_R (Nat.le_refl _) (by decide) rfl (Nat.le_of_ble_eq_true rfl) rfl (fun X Q E => b_X8_readLine X Q  h E)
def f_X8_takeHalf_2  (c0 : Nat) (z0 : Nat) (r0 : Nat) : Nat → Mem → Int32 → Option (Mem)
  | 0, _, _ => none
  | fu + 1, I, v1 =>
    if ((Int32.ofNat (cL c0 z0)) / (2 : Int32)) ≤ v1 then (some I) else (gd (inb (((Int32.ofNat (cL c0 z0)) / (2 : Int32)) + v1) (cL c0 z0)) <|
    gd (inb v1 (cL c0 z0)) <|
    bnd (upd4 I c0 z0 r0 v1.toNatClampNeg (I c0 z0 r0 ((((Int32.ofNat (cL c0 z0)) / (2 : Int32)) + v1).toNatClampNeg))) fun I1' =>
    (f_X8_takeHalf_2 c0 z0 r0 fu) I1' (v1 + (1 : Int32)))
theorem b_X8_takeHalf_2 (X : CX) (Q : State → Prop) {P : PMem} {O : Nat → Int64} {D : Bool} {n : Nat} {c0 : Nat} {z0 : Nat} {r0 : Nat} {r : (Mem)}  (hc0 : iaOK c0 z0 r0 = true) : ∀ (fu : Nat) {I : Mem} {v1 : Int32}, f_X8_takeHalf_2 c0 z0 r0 fu I v1 = some r → EndR X cX8_takeHalf RX8 2 (none) 2 n none r P O D Q → Here X cX8_takeHalf RX8 2 (none) 2 n 2 [some (.inr (.inr (c0, z0, r0))), some (.inl v1)] [] I P O D n Q := by
  intro fu
  induction fu with
  | zero => intro I v1 h E; cases h
  | succ fu ih =>
  intro I v1 h E
  have H2 : ∀ (I : Mem) (v1 : Int32), f_X8_takeHalf_2 c0 z0 r0 fu I v1 = some r → Here X cX8_takeHalf RX8 2 (none) 2 n 2 [some (.inr (.inr (c0, z0, r0))), some (.inl v1)] [] I P O D n Q := fun _ _ b => ih b E
  simp only [f_X8_takeHalf_2] at h
  refine h_iload_n dX8_takeHalf_2 rfl ?_
  refine h_aload_n dX8_takeHalf_3 rfl ?_
  refine an_v hc0 dX8_takeHalf_4 ?_
  refine h_iconst (2 : Int32) dX8_takeHalf_5 k_iconst_2 ?_
  refine h_div dX8_takeHalf_6 (by decide) ?_
  refine h_icmp_ge (tgt := 27) dX8_takeHalf_7 (by decide) (fun q1 => ?_) (fun q1 => ?_)
  · rw [if_pos q1] at h
    cases h
    exact h_vret dX8_takeHalf_27 rfl E
  · rw [if_neg q1] at h
    refine h_aload_n dX8_takeHalf_10 rfl ?_
    refine h_iload_n dX8_takeHalf_11 rfl ?_
    refine h_aload_n dX8_takeHalf_12 rfl ?_
    refine h_aload_n dX8_takeHalf_13 rfl ?_
    refine an_v hc0 dX8_takeHalf_14 ?_
    refine h_iconst (2 : Int32) dX8_takeHalf_15 k_iconst_2 ?_
    refine h_div dX8_takeHalf_16 (by decide) ?_
    refine h_iload_n dX8_takeHalf_17 rfl ?_
    refine h_iadd dX8_takeHalf_18 ?_
    obtain ⟨g1, h⟩ := gd_some h
    refine al_v hc0 ((((Int32.ofNat (cL c0 z0)) / (2 : Int32)) + v1).toNatClampNeg) rfl dX8_takeHalf_19 g1 ?_
    obtain ⟨g2, h⟩ := gd_some h
    obtain ⟨I1', e1, h⟩ := bnd_some h
    refine as_v hc0 v1.toNatClampNeg rfl dX8_takeHalf_20 g2 ?_
    refine h_nmI e1 ?_
    refine h_iinc (1 : Int32) dX8_takeHalf_21 rfl k_iinc_1 (by decide) rfl ?_
    refine h_goto (tgt := 2) dX8_takeHalf_24 (by decide) ?_
    exact (H2 _ _ h)
def f_X8_takeHalf  (c0 : Nat) (z0 : Nat) (r0 : Nat) (I : Mem) : Option (Mem) :=
  f_X8_takeHalf_2 c0 z0 r0 FU I (0 : Int32)
theorem b_X8_takeHalf (X : CX) (Q : State → Prop) {I : Mem} {P : PMem} {O : Nat → Int64} {D : Bool} {n : Nat} {c0 : Nat} {z0 : Nat} {r0 : Nat} {r : (Mem)}  (hc0 : iaOK c0 z0 r0 = true) (h : f_X8_takeHalf c0 z0 r0 I = some r) (E : EndR X cX8_takeHalf RX8 2 (none) 2 n none r P O D Q) : Here X cX8_takeHalf RX8 2 (none) 2 n 0 [some (.inr (.inr (c0, z0, r0))), none] [] I P O D n Q := by
  unfold f_X8_takeHalf at h
  refine h_iconst (0 : Int32) dX8_takeHalf_0 k_iconst_0 ?_
  refine h_istore_n dX8_takeHalf_1 (by decide) rfl ?_
  exact (b_X8_takeHalf_2 X Q hc0 FU  h E)
theorem m_X8_takeHalf {I : Mem} {P : PMem} {O : Nat → Int64} {D : Bool} {n : Nat} {c0 : Nat} {z0 : Nat} {r0 : Nat} {r : (Mem)} (hc0 : iaOK c0 z0 r0 = true) (h : f_X8_takeHalf c0 z0 r0 I = some r) : MethR yX8_takeHalf cX8_takeHalf 2 (none) 2 [.inr (.inr (c0, z0, r0))] I P O D n none r P O D n := meth_R (Nat.le_refl _) (by decide) rfl (Nat.le_of_ble_eq_true rfl) rfl (fun X Q E => b_X8_takeHalf X Q hc0 h E)
def f_X8_tellFar_109 (k97 : Mem → Int32 → Int32 → Option (Mem))  : Nat → Mem → Int32 → Int32 → Int32 → Option (Mem)
  | 0, _, _, _, _ => none
  | fu + 1, I, v1, v2, v3 =>
    if (I 50 0 0 0) ≤ v3 then (k97 I v1 (v2 + (1 : Int32))) else ((f_X8_couple I v2 v3).bind fun y1 =>
    (f_X8_couple I v2 v3).bind fun y2 =>
    gd (inb y2 81) <|
    (f_X8_couple I v2 v1).bind fun y3 =>
    gd (inb y3 81) <|
    (f_X8_couple I v1 v3).bind fun y4 =>
    gd (inb y4 81) <|
    gd (inb y1 81) <|
    bnd (upd4 I 61 0 0 y1.toNatClampNeg (jmin (I 61 0 0 y2.toNatClampNeg) ((I 61 0 0 y3.toNatClampNeg) + (I 61 0 0 y4.toNatClampNeg)))) fun I1' =>
    (f_X8_tellFar_109 k97 fu) I1' v1 v2 (v3 + (1 : Int32)))
theorem b_X8_tellFar_109 (X : CX) (Q : State → Prop) {P : PMem} {O : Nat → Int64} {D : Bool} {n : Nat} {k97 : Mem → Int32 → Int32 → Option (Mem)} {r : (Mem)}  (H97 : ∀ (I : Mem) (v1 : Int32) (v2 : Int32), k97 I v1 v2 = some r → Here X cX8_tellFar RX8 4 (none) 3 n 97 [some (.inr (.inr (8, 0, 0))), some (.inl v1), some (.inl v2), none] [] I P O D n Q) : ∀ (fu : Nat) {I : Mem} {v1 : Int32} {v2 : Int32} {v3 : Int32}, f_X8_tellFar_109 k97 fu I v1 v2 v3 = some r → EndR X cX8_tellFar RX8 4 (none) 3 n none r P O D Q → Here X cX8_tellFar RX8 4 (none) 3 n 109 [some (.inr (.inr (8, 0, 0))), some (.inl v1), some (.inl v2), some (.inl v3)] [] I P O D n Q := by
  intro fu
  induction fu with
  | zero => intro I v1 v2 v3 h E; cases h
  | succ fu ih =>
  intro I v1 v2 v3 h E
  have H109 : ∀ (I : Mem) (v1 : Int32) (v2 : Int32) (v3 : Int32), f_X8_tellFar_109 k97 fu I v1 v2 v3 = some r → Here X cX8_tellFar RX8 4 (none) 3 n 109 [some (.inr (.inr (8, 0, 0))), some (.inl v1), some (.inl v2), some (.inl v3)] [] I P O D n Q := fun _ _ _ _ b => ih b E
  simp only [f_X8_tellFar_109] at h
  refine h_iload_n dX8_tellFar_109 rfl ?_
  refine h_aload_n dX8_tellFar_110 rfl ?_
  refine g_X8_34  dX8_tellFar_111 ?_
  refine h_iconst (0 : Int32) dX8_tellFar_114 k_iconst_0 ?_
  refine al_50  0 cl_0 dX8_tellFar_115 rfl ?_
  refine h_icmp_ge (tgt := 169) dX8_tellFar_116 (by decide) (fun q1 => ?_) (fun q1 => ?_)
  · rw [if_pos q1] at h
    refine h_iinc (1 : Int32) dX8_tellFar_169 rfl k_iinc_1 (by decide) rfl ?_
    refine h_goto (tgt := 97) dX8_tellFar_172 (by decide) ?_
    exact h_mask [true, true, true, false] (H97 _ _ _ h)
  · rw [if_neg q1] at h
    refine h_aload_n dX8_tellFar_119 rfl ?_
    refine g_X8_70  dX8_tellFar_120 ?_
    refine h_iload_n dX8_tellFar_123 rfl ?_
    refine h_iload_n dX8_tellFar_124 rfl ?_
    obtain ⟨y1, hh1, h⟩ := obd_some h
    refine h_cSi [.inl v2, .inl v3] (m_X8_couple  hh1) cs_X8_276 dX8_tellFar_125 rfl (by decide) rfl (Or.inr rfl) rfl ?_
    refine h_aload_n dX8_tellFar_128 rfl ?_
    refine g_X8_70  dX8_tellFar_129 ?_
    refine h_iload_n dX8_tellFar_132 rfl ?_
    refine h_iload_n dX8_tellFar_133 rfl ?_
    obtain ⟨y2, hh2, h⟩ := obd_some h
    refine h_cSi [.inl v2, .inl v3] (m_X8_couple  hh2) cs_X8_276 dX8_tellFar_134 rfl (by decide) rfl (Or.inr rfl) rfl ?_
    obtain ⟨g1, h⟩ := gd_some h
    refine al_61  y2.toNatClampNeg rfl dX8_tellFar_137 g1 ?_
    refine h_aload_n dX8_tellFar_138 rfl ?_
    refine g_X8_70  dX8_tellFar_139 ?_
    refine h_iload_n dX8_tellFar_142 rfl ?_
    refine h_iload_n dX8_tellFar_143 rfl ?_
    obtain ⟨y3, hh3, h⟩ := obd_some h
    refine h_cSi [.inl v2, .inl v1] (m_X8_couple  hh3) cs_X8_276 dX8_tellFar_144 rfl (by decide) rfl (Or.inr rfl) rfl ?_
    obtain ⟨g2, h⟩ := gd_some h
    refine al_61  y3.toNatClampNeg rfl dX8_tellFar_147 g2 ?_
    refine h_aload_n dX8_tellFar_148 rfl ?_
    refine g_X8_70  dX8_tellFar_149 ?_
    refine h_iload_n dX8_tellFar_152 rfl ?_
    refine h_iload_n dX8_tellFar_153 rfl ?_
    obtain ⟨y4, hh4, h⟩ := obd_some h
    refine h_cSi [.inl v1, .inl v3] (m_X8_couple  hh4) cs_X8_276 dX8_tellFar_154 rfl (by decide) rfl (Or.inr rfl) rfl ?_
    obtain ⟨g3, h⟩ := gd_some h
    refine al_61  y4.toNatClampNeg rfl dX8_tellFar_157 g3 ?_
    refine h_iadd dX8_tellFar_158 ?_
    refine h_min dX8_tellFar_159 ml_X8_187 wm1_min wm2 wm3_min (by decide) rfl ?_
    obtain ⟨g4, h⟩ := gd_some h
    obtain ⟨I1', e1, h⟩ := bnd_some h
    refine as_61  y1.toNatClampNeg rfl dX8_tellFar_162 g4 ?_
    refine h_nmI e1 ?_
    refine h_iinc (1 : Int32) dX8_tellFar_163 rfl k_iinc_1 (by decide) rfl ?_
    refine h_goto (tgt := 109) dX8_tellFar_166 (by decide) ?_
    exact (H109 _ _ _ _ h)
def f_X8_tellFar_97 (k85 : Mem → Int32 → Option (Mem))  : Nat → Mem → Int32 → Int32 → Option (Mem)
  | 0, _, _, _ => none
  | fu + 1, I, v1, v2 =>
    if (I 50 0 0 0) ≤ v2 then (k85 I (v1 + (1 : Int32))) else (f_X8_tellFar_109 (f_X8_tellFar_97 k85 fu) FU I v1 v2 (0 : Int32))
theorem b_X8_tellFar_97 (X : CX) (Q : State → Prop) {P : PMem} {O : Nat → Int64} {D : Bool} {n : Nat} {k85 : Mem → Int32 → Option (Mem)} {r : (Mem)}  (H85 : ∀ (I : Mem) (v1 : Int32), k85 I v1 = some r → Here X cX8_tellFar RX8 4 (none) 3 n 85 [some (.inr (.inr (8, 0, 0))), some (.inl v1), none, none] [] I P O D n Q) : ∀ (fu : Nat) {I : Mem} {v1 : Int32} {v2 : Int32}, f_X8_tellFar_97 k85 fu I v1 v2 = some r → EndR X cX8_tellFar RX8 4 (none) 3 n none r P O D Q → Here X cX8_tellFar RX8 4 (none) 3 n 97 [some (.inr (.inr (8, 0, 0))), some (.inl v1), some (.inl v2), none] [] I P O D n Q := by
  intro fu
  induction fu with
  | zero => intro I v1 v2 h E; cases h
  | succ fu ih =>
  intro I v1 v2 h E
  have H97 : ∀ (I : Mem) (v1 : Int32) (v2 : Int32), f_X8_tellFar_97 k85 fu I v1 v2 = some r → Here X cX8_tellFar RX8 4 (none) 3 n 97 [some (.inr (.inr (8, 0, 0))), some (.inl v1), some (.inl v2), none] [] I P O D n Q := fun _ _ _ b => ih b E
  simp only [f_X8_tellFar_97] at h
  refine h_iload_n dX8_tellFar_97 rfl ?_
  refine h_aload_n dX8_tellFar_98 rfl ?_
  refine g_X8_34  dX8_tellFar_99 ?_
  refine h_iconst (0 : Int32) dX8_tellFar_102 k_iconst_0 ?_
  refine al_50  0 cl_0 dX8_tellFar_103 rfl ?_
  refine h_icmp_ge (tgt := 175) dX8_tellFar_104 (by decide) (fun q1 => ?_) (fun q1 => ?_)
  · rw [if_pos q1] at h
    refine h_iinc (1 : Int32) dX8_tellFar_175 rfl k_iinc_1 (by decide) rfl ?_
    refine h_goto (tgt := 85) dX8_tellFar_178 (by decide) ?_
    exact h_mask [true, true, false, false] (H85 _ _ h)
  · rw [if_neg q1] at h
    refine h_iconst (0 : Int32) dX8_tellFar_107 k_iconst_0 ?_
    refine h_istore_n dX8_tellFar_108 (by decide) rfl ?_
    exact (b_X8_tellFar_109 X Q H97 FU  h E)
def f_X8_tellFar_85   : Nat → Mem → Int32 → Option (Mem)
  | 0, _, _ => none
  | fu + 1, I, v1 =>
    if (I 50 0 0 0) ≤ v1 then (some I) else (f_X8_tellFar_97 (f_X8_tellFar_85 fu) FU I v1 (0 : Int32))
theorem b_X8_tellFar_85 (X : CX) (Q : State → Prop) {P : PMem} {O : Nat → Int64} {D : Bool} {n : Nat} {r : (Mem)}  : ∀ (fu : Nat) {I : Mem} {v1 : Int32}, f_X8_tellFar_85 fu I v1 = some r → EndR X cX8_tellFar RX8 4 (none) 3 n none r P O D Q → Here X cX8_tellFar RX8 4 (none) 3 n 85 [some (.inr (.inr (8, 0, 0))), some (.inl v1), none, none] [] I P O D n Q := by
  intro fu
  induction fu with
  | zero => intro I v1 h E; cases h
  | succ fu ih =>
  intro I v1 h E
  have H85 : ∀ (I : Mem) (v1 : Int32), f_X8_tellFar_85 fu I v1 = some r → Here X cX8_tellFar RX8 4 (none) 3 n 85 [some (.inr (.inr (8, 0, 0))), some (.inl v1), none, none] [] I P O D n Q := fun _ _ b => ih b E
  simp only [f_X8_tellFar_85] at h
  refine h_iload_n dX8_tellFar_85 rfl ?_
  refine h_aload_n dX8_tellFar_86 rfl ?_
  refine g_X8_34  dX8_tellFar_87 ?_
  refine h_iconst (0 : Int32) dX8_tellFar_90 k_iconst_0 ?_
  refine al_50  0 cl_0 dX8_tellFar_91 rfl ?_
  refine h_icmp_ge (tgt := 181) dX8_tellFar_92 (by decide) (fun q1 => ?_) (fun q1 => ?_)
  · rw [if_pos q1] at h
    cases h
    exact h_vret dX8_tellFar_181 rfl E
  · rw [if_neg q1] at h
    refine h_iconst (0 : Int32) dX8_tellFar_95 k_iconst_0 ?_
    refine h_istore_n dX8_tellFar_96 (by decide) rfl ?_
    exact (b_X8_tellFar_97 X Q H85 FU  h E)
def f_X8_tellFar_14 (k2 : Mem → Int32 → Option (Mem))  : Nat → Mem → Int32 → Int32 → Option (Mem)
  | 0, _, _, _ => none
  | fu + 1, I, v1, v2 =>
    if (I 50 0 0 0) ≤ v2 then (k2 I (v1 + (1 : Int32))) else ((f_X8_couple I v1 v2).bind fun y1 =>
    if v1 = v2 then (gd (inb y1 81) <|
    bnd (upd4 I 61 0 0 y1.toNatClampNeg (0 : Int32)) fun I3' =>
    (f_X8_tellFar_14 k2 fu) I3' v1 (v2 + (1 : Int32))) else ((f_X8_couple I v1 v2).bind fun y2 =>
    gd (inb y2 162) <|
    if (I 51 0 0 y2.toNatClampNeg) ≤ 0 then (gd (inb y1 81) <|
    bnd (upd4 I 61 0 0 y1.toNatClampNeg (100000 : Int32)) fun I1' =>
    (f_X8_tellFar_14 k2 fu) I1' v1 (v2 + (1 : Int32))) else ((f_X8_couple I v1 v2).bind fun y3 =>
    gd (inb y3 162) <|
    gd (inb y1 81) <|
    bnd (upd4 I 61 0 0 y1.toNatClampNeg (I 51 0 0 y3.toNatClampNeg)) fun I2' =>
    (f_X8_tellFar_14 k2 fu) I2' v1 (v2 + (1 : Int32)))))
theorem b_X8_tellFar_14 (X : CX) (Q : State → Prop) {P : PMem} {O : Nat → Int64} {D : Bool} {n : Nat} {k2 : Mem → Int32 → Option (Mem)} {r : (Mem)}  (H2 : ∀ (I : Mem) (v1 : Int32), k2 I v1 = some r → Here X cX8_tellFar RX8 4 (none) 3 n 2 [some (.inr (.inr (8, 0, 0))), some (.inl v1), none, none] [] I P O D n Q) : ∀ (fu : Nat) {I : Mem} {v1 : Int32} {v2 : Int32}, f_X8_tellFar_14 k2 fu I v1 v2 = some r → EndR X cX8_tellFar RX8 4 (none) 3 n none r P O D Q → Here X cX8_tellFar RX8 4 (none) 3 n 14 [some (.inr (.inr (8, 0, 0))), some (.inl v1), some (.inl v2), none] [] I P O D n Q := by
  intro fu
  induction fu with
  | zero => intro I v1 v2 h E; cases h
  | succ fu ih =>
  intro I v1 v2 h E
  have H14 : ∀ (I : Mem) (v1 : Int32) (v2 : Int32), f_X8_tellFar_14 k2 fu I v1 v2 = some r → Here X cX8_tellFar RX8 4 (none) 3 n 14 [some (.inr (.inr (8, 0, 0))), some (.inl v1), some (.inl v2), none] [] I P O D n Q := fun _ _ _ b => ih b E
  simp only [f_X8_tellFar_14] at h
  refine h_iload_n dX8_tellFar_14 rfl ?_
  refine h_aload_n dX8_tellFar_15 rfl ?_
  refine g_X8_34  dX8_tellFar_16 ?_
  refine h_iconst (0 : Int32) dX8_tellFar_19 k_iconst_0 ?_
  refine al_50  0 cl_0 dX8_tellFar_20 rfl ?_
  refine h_icmp_ge (tgt := 77) dX8_tellFar_21 (by decide) (fun q1 => ?_) (fun q1 => ?_)
  · rw [if_pos q1] at h
    refine h_iinc (1 : Int32) dX8_tellFar_77 rfl k_iinc_1 (by decide) rfl ?_
    refine h_goto (tgt := 2) dX8_tellFar_80 (by decide) ?_
    exact h_mask [true, true, false, false] (H2 _ _ h)
  · rw [if_neg q1] at h
    refine h_aload_n dX8_tellFar_24 rfl ?_
    refine g_X8_70  dX8_tellFar_25 ?_
    refine h_iload_n dX8_tellFar_28 rfl ?_
    refine h_iload_n dX8_tellFar_29 rfl ?_
    obtain ⟨y1, hh1, h⟩ := obd_some h
    refine h_cSi [.inl v1, .inl v2] (m_X8_couple  hh1) cs_X8_276 dX8_tellFar_30 rfl (by decide) rfl (Or.inr rfl) rfl ?_
    refine h_iload_n dX8_tellFar_33 rfl ?_
    refine h_iload_n dX8_tellFar_34 rfl ?_
    refine h_icmp_ne (tgt := 42) dX8_tellFar_35 (by decide) (fun q2 => ?_) (fun q2 => ?_)
    · rw [if_neg q2] at h
      refine h_aload_n dX8_tellFar_42 rfl ?_
      refine g_X8_38  dX8_tellFar_43 ?_
      refine h_iload_n dX8_tellFar_46 rfl ?_
      refine h_iload_n dX8_tellFar_47 rfl ?_
      obtain ⟨y2, hh2, h⟩ := obd_some h
      refine h_cSi [.inl v1, .inl v2] (m_X8_couple  hh2) cs_X8_276 dX8_tellFar_48 rfl (by decide) rfl (Or.inr rfl) rfl ?_
      obtain ⟨g1, h⟩ := gd_some h
      refine al_51  y2.toNatClampNeg rfl dX8_tellFar_51 g1 ?_
      refine h_if_le (tgt := 68) dX8_tellFar_52 (by decide) (fun q3 => ?_) (fun q3 => ?_)
      · rw [if_pos q3] at h
        refine h_ldci (100000 : Int32) dX8_tellFar_68 kc_X8_186 ?_
        obtain ⟨g2, h⟩ := gd_some h
        obtain ⟨I1', e1, h⟩ := bnd_some h
        refine as_61  y1.toNatClampNeg rfl dX8_tellFar_70 g2 ?_
        refine h_nmI e1 ?_
        refine h_iinc (1 : Int32) dX8_tellFar_71 rfl k_iinc_1 (by decide) rfl ?_
        refine h_goto (tgt := 14) dX8_tellFar_74 (by decide) ?_
        exact (H14 _ _ _ h)
      · rw [if_neg q3] at h
        refine h_aload_n dX8_tellFar_55 rfl ?_
        refine g_X8_38  dX8_tellFar_56 ?_
        refine h_iload_n dX8_tellFar_59 rfl ?_
        refine h_iload_n dX8_tellFar_60 rfl ?_
        obtain ⟨y3, hh3, h⟩ := obd_some h
        refine h_cSi [.inl v1, .inl v2] (m_X8_couple  hh3) cs_X8_276 dX8_tellFar_61 rfl (by decide) rfl (Or.inr rfl) rfl ?_
        obtain ⟨g3, h⟩ := gd_some h
        refine al_51  y3.toNatClampNeg rfl dX8_tellFar_64 g3 ?_
        refine h_goto (tgt := 70) dX8_tellFar_65 (by decide) ?_
        obtain ⟨g4, h⟩ := gd_some h
        obtain ⟨I2', e2, h⟩ := bnd_some h
        refine as_61  y1.toNatClampNeg rfl dX8_tellFar_70 g4 ?_
        refine h_nmI e2 ?_
        refine h_iinc (1 : Int32) dX8_tellFar_71 rfl k_iinc_1 (by decide) rfl ?_
        refine h_goto (tgt := 14) dX8_tellFar_74 (by decide) ?_
        exact (H14 _ _ _ h)
    · rw [if_pos q2] at h
      refine h_iconst (0 : Int32) dX8_tellFar_38 k_iconst_0 ?_
      refine h_goto (tgt := 70) dX8_tellFar_39 (by decide) ?_
      obtain ⟨g5, h⟩ := gd_some h
      obtain ⟨I3', e3, h⟩ := bnd_some h
      refine as_61  y1.toNatClampNeg rfl dX8_tellFar_70 g5 ?_
      refine h_nmI e3 ?_
      refine h_iinc (1 : Int32) dX8_tellFar_71 rfl k_iinc_1 (by decide) rfl ?_
      refine h_goto (tgt := 14) dX8_tellFar_74 (by decide) ?_
      exact (H14 _ _ _ h)
def f_X8_tellFar_2   : Nat → Mem → Int32 → Option (Mem)
  | 0, _, _ => none
  | fu + 1, I, v1 =>
    if (I 50 0 0 0) ≤ v1 then (f_X8_tellFar_85 FU I (0 : Int32)) else (f_X8_tellFar_14 (f_X8_tellFar_2 fu) FU I v1 (0 : Int32))
theorem b_X8_tellFar_2 (X : CX) (Q : State → Prop) {P : PMem} {O : Nat → Int64} {D : Bool} {n : Nat} {r : (Mem)}  : ∀ (fu : Nat) {I : Mem} {v1 : Int32}, f_X8_tellFar_2 fu I v1 = some r → EndR X cX8_tellFar RX8 4 (none) 3 n none r P O D Q → Here X cX8_tellFar RX8 4 (none) 3 n 2 [some (.inr (.inr (8, 0, 0))), some (.inl v1), none, none] [] I P O D n Q := by
  intro fu
  induction fu with
  | zero => intro I v1 h E; cases h
  | succ fu ih =>
  intro I v1 h E
  have H2 : ∀ (I : Mem) (v1 : Int32), f_X8_tellFar_2 fu I v1 = some r → Here X cX8_tellFar RX8 4 (none) 3 n 2 [some (.inr (.inr (8, 0, 0))), some (.inl v1), none, none] [] I P O D n Q := fun _ _ b => ih b E
  simp only [f_X8_tellFar_2] at h
  refine h_iload_n dX8_tellFar_2 rfl ?_
  refine h_aload_n dX8_tellFar_3 rfl ?_
  refine g_X8_34  dX8_tellFar_4 ?_
  refine h_iconst (0 : Int32) dX8_tellFar_7 k_iconst_0 ?_
  refine al_50  0 cl_0 dX8_tellFar_8 rfl ?_
  refine h_icmp_ge (tgt := 83) dX8_tellFar_9 (by decide) (fun q1 => ?_) (fun q1 => ?_)
  · rw [if_pos q1] at h
    refine h_iconst (0 : Int32) dX8_tellFar_83 k_iconst_0 ?_
    refine h_istore_n dX8_tellFar_84 (by decide) rfl ?_
    exact (b_X8_tellFar_85 X Q FU  h E)
  · rw [if_neg q1] at h
    refine h_iconst (0 : Int32) dX8_tellFar_12 k_iconst_0 ?_
    refine h_istore_n dX8_tellFar_13 (by decide) rfl ?_
    exact (b_X8_tellFar_14 X Q H2 FU  h E)
def f_X8_tellFar   (I : Mem) : Option (Mem) :=
  f_X8_tellFar_2 FU I (0 : Int32)
theorem b_X8_tellFar (X : CX) (Q : State → Prop) {I : Mem} {P : PMem} {O : Nat → Int64} {D : Bool} {n : Nat} {r : (Mem)}  (h : f_X8_tellFar I = some r) (E : EndR X cX8_tellFar RX8 4 (none) 3 n none r P O D Q) : Here X cX8_tellFar RX8 4 (none) 3 n 0 [some (.inr (.inr (8, 0, 0))), none, none, none] [] I P O D n Q := by
  unfold f_X8_tellFar at h
  refine h_iconst (0 : Int32) dX8_tellFar_0 k_iconst_0 ?_
  refine h_istore_n dX8_tellFar_1 (by decide) rfl ?_
  exact (b_X8_tellFar_2 X Q FU  h E)
theorem m_X8_tellFar {I : Mem} {P : PMem} {O : Nat → Int64} {D : Bool} {n : Nat}  {r : (Mem)}  (h : f_X8_tellFar I = some r) : MethR yX8_tellFar cX8_tellFar 4 (none) 3 [.inr (.inr (8, 0, 0))] I P O D n none r P O D n := meth_R (Nat.le_refl _) (by decide) rfl (Nat.le_of_ble_eq_true rfl) rfl (fun X Q E => b_X8_tellFar X Q  h E)
def f_X8_takeOver   (I : Mem) : Option (Mem) :=
  (f_X8_takeHalf 50 0 0 I).bind fun y1 =>
  (f_X8_takeHalf 51 0 0 y1).bind fun y2 =>
  (f_X8_takeHalf 52 0 0 y2).bind fun y3 =>
  (f_X8_takeHalf 53 0 0 y3).bind fun y4 =>
  (f_X8_takeHalf 54 0 0 y4).bind fun y5 =>
  (f_X8_takeHalf 55 0 0 y5).bind fun y6 =>
  (f_X8_takeHalf 56 0 0 y6).bind fun y7 =>
  (f_X8_takeHalf 57 0 0 y7).bind fun y8 =>
  (f_X8_takeHalf 58 0 0 y8).bind fun y9 =>
  bnd (upd4 y9 8 0 0 29 (y9 50 0 0 1)) fun I1' =>
  bnd (upd4 I1' 8 0 0 30 (0 : Int32)) fun I2' =>
  bnd (upd4 I2' 8 0 0 31 (0 : Int32)) fun I3' =>
  bnd (upd4 I3' 8 0 0 32 (0 : Int32)) fun I4' =>
  bnd (upd4 I4' 8 0 0 33 (0 : Int32)) fun I5' =>
  bnd (upd4 I5' 8 0 0 34 (0 : Int32)) fun I6' =>
  bnd (upd4 I6' 8 0 0 54 (0 : Int32)) fun I7' =>
  (f_X8_tellFar I7').bind fun y10 =>
  some y10
theorem b_X8_takeOver (X : CX) (Q : State → Prop) {I : Mem} {P : PMem} {O : Nat → Int64} {D : Bool} {n : Nat} {r : (Mem)}  (h : f_X8_takeOver I = some r) (E : EndR X cX8_takeOver RX8 1 (none) 4 n none r P O D Q) : Here X cX8_takeOver RX8 1 (none) 4 n 0 [some (.inr (.inr (8, 0, 0)))] [] I P O D n Q := by
  unfold f_X8_takeOver at h
  refine h_aload_n dX8_takeOver_0 rfl ?_
  refine g_X8_34  dX8_takeOver_1 ?_
  obtain ⟨y1, hh1, h⟩ := obd_some h
  refine h_cSv [.inr (.inr (50, 0, 0))] (m_X8_takeHalf rfl hh1) cs_X8_307 dX8_takeOver_4 rfl (by decide) rfl (Or.inr rfl) rfl ?_
  refine h_aload_n dX8_takeOver_7 rfl ?_
  refine g_X8_38  dX8_takeOver_8 ?_
  obtain ⟨y2, hh2, h⟩ := obd_some h
  refine h_cSv [.inr (.inr (51, 0, 0))] (m_X8_takeHalf rfl hh2) cs_X8_307 dX8_takeOver_11 rfl (by decide) rfl (Or.inr rfl) rfl ?_
  refine h_aload_n dX8_takeOver_14 rfl ?_
  refine g_X8_41  dX8_takeOver_15 ?_
  obtain ⟨y3, hh3, h⟩ := obd_some h
  refine h_cSv [.inr (.inr (52, 0, 0))] (m_X8_takeHalf rfl hh3) cs_X8_307 dX8_takeOver_18 rfl (by decide) rfl (Or.inr rfl) rfl ?_
  refine h_aload_n dX8_takeOver_21 rfl ?_
  refine g_X8_44  dX8_takeOver_22 ?_
  obtain ⟨y4, hh4, h⟩ := obd_some h
  refine h_cSv [.inr (.inr (53, 0, 0))] (m_X8_takeHalf rfl hh4) cs_X8_307 dX8_takeOver_25 rfl (by decide) rfl (Or.inr rfl) rfl ?_
  refine h_aload_n dX8_takeOver_28 rfl ?_
  refine g_X8_47  dX8_takeOver_29 ?_
  obtain ⟨y5, hh5, h⟩ := obd_some h
  refine h_cSv [.inr (.inr (54, 0, 0))] (m_X8_takeHalf rfl hh5) cs_X8_307 dX8_takeOver_32 rfl (by decide) rfl (Or.inr rfl) rfl ?_
  refine h_aload_n dX8_takeOver_35 rfl ?_
  refine g_X8_49  dX8_takeOver_36 ?_
  obtain ⟨y6, hh6, h⟩ := obd_some h
  refine h_cSv [.inr (.inr (55, 0, 0))] (m_X8_takeHalf rfl hh6) cs_X8_307 dX8_takeOver_39 rfl (by decide) rfl (Or.inr rfl) rfl ?_
  refine h_aload_n dX8_takeOver_42 rfl ?_
  refine g_X8_52  dX8_takeOver_43 ?_
  obtain ⟨y7, hh7, h⟩ := obd_some h
  refine h_cSv [.inr (.inr (56, 0, 0))] (m_X8_takeHalf rfl hh7) cs_X8_307 dX8_takeOver_46 rfl (by decide) rfl (Or.inr rfl) rfl ?_
  refine h_aload_n dX8_takeOver_49 rfl ?_
  refine g_X8_55  dX8_takeOver_50 ?_
  obtain ⟨y8, hh8, h⟩ := obd_some h
  refine h_cSv [.inr (.inr (57, 0, 0))] (m_X8_takeHalf rfl hh8) cs_X8_307 dX8_takeOver_53 rfl (by decide) rfl (Or.inr rfl) rfl ?_
  refine h_aload_n dX8_takeOver_56 rfl ?_
  refine g_X8_57  dX8_takeOver_57 ?_
  obtain ⟨y9, hh9, h⟩ := obd_some h
  refine h_cSv [.inr (.inr (58, 0, 0))] (m_X8_takeHalf rfl hh9) cs_X8_307 dX8_takeOver_60 rfl (by decide) rfl (Or.inr rfl) rfl ?_
  refine h_aload_n dX8_takeOver_63 rfl ?_
  refine h_aload_n dX8_takeOver_64 rfl ?_
  refine g_X8_34  dX8_takeOver_65 ?_
  refine h_iconst (1 : Int32) dX8_takeOver_68 k_iconst_1 ?_
  refine al_50  1 cl_1 dX8_takeOver_69 rfl ?_
  obtain ⟨I1', e1, h⟩ := bnd_some h
  refine p_X8_311  dX8_takeOver_70 ?_
  refine h_nmI e1 ?_
  refine h_aload_n dX8_takeOver_73 rfl ?_
  refine h_iconst (0 : Int32) dX8_takeOver_74 k_iconst_0 ?_
  obtain ⟨I2', e2, h⟩ := bnd_some h
  refine p_X8_314  dX8_takeOver_75 ?_
  refine h_nmI e2 ?_
  refine h_aload_n dX8_takeOver_78 rfl ?_
  refine h_iconst (0 : Int32) dX8_takeOver_79 k_iconst_0 ?_
  obtain ⟨I3', e3, h⟩ := bnd_some h
  refine p_X8_317  dX8_takeOver_80 ?_
  refine h_nmI e3 ?_
  refine h_aload_n dX8_takeOver_83 rfl ?_
  refine h_iconst (0 : Int32) dX8_takeOver_84 k_iconst_0 ?_
  obtain ⟨I4', e4, h⟩ := bnd_some h
  refine p_X8_320  dX8_takeOver_85 ?_
  refine h_nmI e4 ?_
  refine h_aload_n dX8_takeOver_88 rfl ?_
  refine h_iconst (0 : Int32) dX8_takeOver_89 k_iconst_0 ?_
  obtain ⟨I5', e5, h⟩ := bnd_some h
  refine p_X8_323  dX8_takeOver_90 ?_
  refine h_nmI e5 ?_
  refine h_aload_n dX8_takeOver_93 rfl ?_
  refine h_iconst (0 : Int32) dX8_takeOver_94 k_iconst_0 ?_
  obtain ⟨I6', e6, h⟩ := bnd_some h
  refine p_X8_326  dX8_takeOver_95 ?_
  refine h_nmI e6 ?_
  refine h_aload_n dX8_takeOver_98 rfl ?_
  refine h_iconst (0 : Int32) dX8_takeOver_99 k_iconst_0 ?_
  obtain ⟨I7', e7, h⟩ := bnd_some h
  refine p_X8_329  rfl dX8_takeOver_100 ?_
  refine h_nmI e7 ?_
  refine h_aload_n dX8_takeOver_103 rfl ?_
  obtain ⟨y10, hh10, h⟩ := obd_some h
  refine h_cVv [] (m_X8_tellFar  hh10) cw_X8_333 dX8_takeOver_104 rfl ok_8 (by decide) rfl (Or.inr rfl) rfl ?_
  cases h
  exact h_vret dX8_takeOver_107 rfl E
theorem m_X8_takeOver {I : Mem} {P : PMem} {O : Nat → Int64} {D : Bool} {n : Nat}  {r : (Mem)}  (h : f_X8_takeOver I = some r) : MethR yX8_takeOver cX8_takeOver 1 (none) 4 [.inr (.inr (8, 0, 0))] I P O D n none r P O D n := meth_R (Nat.le_refl _) (by decide) rfl (Nat.le_of_ble_eq_true rfl) rfl (fun X Q E => b_X8_takeOver X Q  h E)
def f_X8_land_135   (I : Mem) : Option (Int32 × Mem) :=
  if (I 8 0 0 21) = 0 then ((f_X8_takeOver I).bind fun y1 =>
  some ((0 : Int32), y1)) else (bnd (upd4 I 8 0 0 23 (I 8 0 0 22)) fun I1' =>
  bnd (upd4 I1' 59 0 0 0 ((I1' 59 0 0 0) + (1 : Int32))) fun I2' =>
  some ((I2' 8 0 0 21), I2'))
theorem b_X8_land_135 (X : CX) (Q : State → Prop) {I : Mem} {P : PMem} {O : Nat → Int64} {D : Bool} {n : Nat} {r : (Int32 × Mem)}  (h : f_X8_land_135 I = some r) (E : EndR X cX8_land RX8 3 (some .int) 162 n (some (.inl r.1)) r.2 P O D Q) : Here X cX8_land RX8 3 (some .int) 162 n 135 [some (.inr (.inr (8, 0, 0))), none, none] [] I P O D n Q := by
  unfold f_X8_land_135 at h
  refine h_aload_n dX8_land_135 rfl ?_
  refine g_X8_199  dX8_land_136 ?_
  refine h_if_eq (tgt := 165) dX8_land_139 (by decide) (fun q1 => ?_) (fun q1 => ?_)
  · rw [if_pos q1] at h
    refine h_aload_n dX8_land_165 rfl ?_
    obtain ⟨y1, hh1, h⟩ := obd_some h
    refine h_cVv [] (m_X8_takeOver  hh1) cw_X8_304 dX8_land_166 rfl ok_8 (by decide) rfl (Or.inr rfl) rfl ?_
    refine h_iconst (0 : Int32) dX8_land_169 k_iconst_0 ?_
    cases h
    exact h_iret dX8_land_170 rfl E
  · rw [if_neg q1] at h
    refine h_aload_n dX8_land_142 rfl ?_
    refine h_aload_n dX8_land_143 rfl ?_
    refine g_X8_202  dX8_land_144 ?_
    obtain ⟨I1', e1, h⟩ := bnd_some h
    refine p_X8_66  dX8_land_147 ?_
    refine h_nmI e1 ?_
    refine h_aload_n dX8_land_150 rfl ?_
    refine g_X8_60  dX8_land_151 ?_
    refine h_iconst (0 : Int32) dX8_land_154 k_iconst_0 ?_
    refine h_dup2 dX8_land_155 (fun _ => rfl) (fun _ => rfl) ?_
    refine al_59  0 cl_0 dX8_land_156 rfl ?_
    refine h_iconst (1 : Int32) dX8_land_157 k_iconst_1 ?_
    refine h_iadd dX8_land_158 ?_
    obtain ⟨I2', e2, h⟩ := bnd_some h
    refine as_59  0 cl_0 dX8_land_159 rfl ?_
    refine h_nmI e2 ?_
    refine h_aload_n dX8_land_160 rfl ?_
    refine g_X8_199  dX8_land_161 ?_
    cases h
    exact h_iret dX8_land_164 rfl E
def f_X8_land_112   : Nat → Mem → Int32 → Option (Int32 × Mem)
  | 0, _, _ => none
  | fu + 1, I, v2 =>
    if (I 8 0 0 21) = 0 then (if (I 8 0 0 17) = 0 then (f_X8_land_135 I) else ((f_X8_readLine I v2).bind fun y1 =>
    (f_X8_land_112 fu) y1.2 y1.1)) else (f_X8_land_135 I)
theorem b_X8_land_112 (X : CX) (Q : State → Prop) {P : PMem} {O : Nat → Int64} {D : Bool} {n : Nat} {r : (Int32 × Mem)}  : ∀ (fu : Nat) {I : Mem} {v2 : Int32}, f_X8_land_112 fu I v2 = some r → EndR X cX8_land RX8 3 (some .int) 162 n (some (.inl r.1)) r.2 P O D Q → Here X cX8_land RX8 3 (some .int) 162 n 112 [some (.inr (.inr (8, 0, 0))), none, some (.inl v2)] [] I P O D n Q := by
  intro fu
  induction fu with
  | zero => intro I v2 h E; cases h
  | succ fu ih =>
  intro I v2 h E
  have H112 : ∀ (I : Mem) (v2 : Int32), f_X8_land_112 fu I v2 = some r → Here X cX8_land RX8 3 (some .int) 162 n 112 [some (.inr (.inr (8, 0, 0))), none, some (.inl v2)] [] I P O D n Q := fun _ _ b => ih b E
  simp only [f_X8_land_112] at h
  refine h_aload_n dX8_land_112 rfl ?_
  refine g_X8_199  dX8_land_113 ?_
  refine h_if_ne (tgt := 135) dX8_land_116 (by decide) (fun q1 => ?_) (fun q1 => ?_)
  · rw [if_neg q1] at h
    exact h_mask [true, false, false] (b_X8_land_135 X Q  h E)
  · rw [if_pos q1] at h
    refine h_aload_n dX8_land_119 rfl ?_
    refine g_X8_173  dX8_land_120 ?_
    refine h_if_eq (tgt := 135) dX8_land_123 (by decide) (fun q2 => ?_) (fun q2 => ?_)
    · rw [if_pos q2] at h
      exact h_mask [true, false, false] (b_X8_land_135 X Q  h E)
    · rw [if_neg q2] at h
      refine h_aload_n dX8_land_126 rfl ?_
      refine h_iload_n dX8_land_127 rfl ?_
      obtain ⟨y1, hh1, h⟩ := obd_some h
      refine h_cVi [.inl v2] (m_X8_readLine  hh1) cw_X8_301 dX8_land_128 rfl ok_8 (by decide) rfl (Or.inr rfl) rfl ?_
      refine h_istore_n dX8_land_131 (by decide) rfl ?_
      refine h_goto (tgt := 112) dX8_land_132 (by decide) ?_
      exact (H112 _ _ h)
def f_X8_land_84   : Nat → Mem → Int32 → Option (Int32 × Mem)
  | 0, _, _ => none
  | fu + 1, I, v2 =>
    if (81 : Int32) ≤ v2 then ((f_X8_stepOn I).bind fun y1 =>
    f_X8_land_112 FU y1 (0 : Int32)) else (gd (inb ((81 : Int32) + v2) 162) <|
    bnd (upd4 I 51 0 0 (((81 : Int32) + v2).toNatClampNeg) (0 : Int32)) fun I1' =>
    (f_X8_land_84 fu) I1' (v2 + (1 : Int32)))
theorem b_X8_land_84 (X : CX) (Q : State → Prop) {P : PMem} {O : Nat → Int64} {D : Bool} {n : Nat} {r : (Int32 × Mem)}  : ∀ (fu : Nat) {I : Mem} {v2 : Int32}, f_X8_land_84 fu I v2 = some r → EndR X cX8_land RX8 3 (some .int) 162 n (some (.inl r.1)) r.2 P O D Q → Here X cX8_land RX8 3 (some .int) 162 n 84 [some (.inr (.inr (8, 0, 0))), none, some (.inl v2)] [] I P O D n Q := by
  intro fu
  induction fu with
  | zero => intro I v2 h E; cases h
  | succ fu ih =>
  intro I v2 h E
  have H84 : ∀ (I : Mem) (v2 : Int32), f_X8_land_84 fu I v2 = some r → Here X cX8_land RX8 3 (some .int) 162 n 84 [some (.inr (.inr (8, 0, 0))), none, some (.inl v2)] [] I P O D n Q := fun _ _ b => ih b E
  simp only [f_X8_land_84] at h
  refine h_iload_n dX8_land_84 rfl ?_
  refine h_bipush (81 : Int32) dX8_land_85 k_bipush_81 ?_
  refine h_icmp_ge (tgt := 106) dX8_land_87 (by decide) (fun q1 => ?_) (fun q1 => ?_)
  · rw [if_pos q1] at h
    refine h_aload_n dX8_land_106 rfl ?_
    obtain ⟨y1, hh1, h⟩ := obd_some h
    refine h_cVv [] (m_X8_stepOn  hh1) cw_X8_224 dX8_land_107 rfl ok_8 (by decide) rfl (Or.inr rfl) rfl ?_
    refine h_iconst (0 : Int32) dX8_land_110 k_iconst_0 ?_
    refine h_istore_n dX8_land_111 (by decide) rfl ?_
    exact (b_X8_land_112 X Q FU  h E)
  · rw [if_neg q1] at h
    refine h_aload_n dX8_land_90 rfl ?_
    refine g_X8_38  dX8_land_91 ?_
    refine h_bipush (81 : Int32) dX8_land_94 k_bipush_81 ?_
    refine h_iload_n dX8_land_96 rfl ?_
    refine h_iadd dX8_land_97 ?_
    refine h_iconst (0 : Int32) dX8_land_98 k_iconst_0 ?_
    obtain ⟨g1, h⟩ := gd_some h
    obtain ⟨I1', e1, h⟩ := bnd_some h
    refine as_51  (((81 : Int32) + v2).toNatClampNeg) rfl dX8_land_99 g1 ?_
    refine h_nmI e1 ?_
    refine h_iinc (1 : Int32) dX8_land_100 rfl k_iinc_1 (by decide) rfl ?_
    refine h_goto (tgt := 84) dX8_land_103 (by decide) ?_
    exact (H84 _ _ h)
def f_X8_land_50   : Nat → Mem → Int32 → Option (Int32 × Mem)
  | 0, _, _ => none
  | fu + 1, I, v2 =>
    if (7 : Int32) ≤ v2 then (f_X8_land_84 FU I (0 : Int32)) else (if v2 = (3 : Int32) then (gd (inb ((7 : Int32) + v2) 14) <|
    bnd (upd4 I 50 0 0 (((7 : Int32) + v2).toNatClampNeg) (10 : Int32)) fun I2' =>
    (f_X8_land_50 fu) I2' (v2 + (1 : Int32))) else (gd (inb ((7 : Int32) + v2) 14) <|
    bnd (upd4 I 50 0 0 (((7 : Int32) + v2).toNatClampNeg) (0 : Int32)) fun I1' =>
    (f_X8_land_50 fu) I1' (v2 + (1 : Int32))))
theorem b_X8_land_50 (X : CX) (Q : State → Prop) {P : PMem} {O : Nat → Int64} {D : Bool} {n : Nat} {r : (Int32 × Mem)}  : ∀ (fu : Nat) {I : Mem} {v2 : Int32}, f_X8_land_50 fu I v2 = some r → EndR X cX8_land RX8 3 (some .int) 162 n (some (.inl r.1)) r.2 P O D Q → Here X cX8_land RX8 3 (some .int) 162 n 50 [some (.inr (.inr (8, 0, 0))), none, some (.inl v2)] [] I P O D n Q := by
  intro fu
  induction fu with
  | zero => intro I v2 h E; cases h
  | succ fu ih =>
  intro I v2 h E
  have H50 : ∀ (I : Mem) (v2 : Int32), f_X8_land_50 fu I v2 = some r → Here X cX8_land RX8 3 (some .int) 162 n 50 [some (.inr (.inr (8, 0, 0))), none, some (.inl v2)] [] I P O D n Q := fun _ _ b => ih b E
  simp only [f_X8_land_50] at h
  refine h_iload_n dX8_land_50 rfl ?_
  refine h_bipush (7 : Int32) dX8_land_51 k_bipush_7 ?_
  refine h_icmp_ge (tgt := 82) dX8_land_53 (by decide) (fun q1 => ?_) (fun q1 => ?_)
  · rw [if_pos q1] at h
    refine h_iconst (0 : Int32) dX8_land_82 k_iconst_0 ?_
    refine h_istore_n dX8_land_83 (by decide) rfl ?_
    exact (b_X8_land_84 X Q FU  h E)
  · rw [if_neg q1] at h
    refine h_aload_n dX8_land_56 rfl ?_
    refine g_X8_34  dX8_land_57 ?_
    refine h_bipush (7 : Int32) dX8_land_60 k_bipush_7 ?_
    refine h_iload_n dX8_land_62 rfl ?_
    refine h_iadd dX8_land_63 ?_
    refine h_iload_n dX8_land_64 rfl ?_
    refine h_iconst (3 : Int32) dX8_land_65 k_iconst_3 ?_
    refine h_icmp_ne (tgt := 74) dX8_land_66 (by decide) (fun q2 => ?_) (fun q2 => ?_)
    · rw [if_neg q2] at h
      refine h_iconst (0 : Int32) dX8_land_74 k_iconst_0 ?_
      obtain ⟨g1, h⟩ := gd_some h
      obtain ⟨I1', e1, h⟩ := bnd_some h
      refine as_50  (((7 : Int32) + v2).toNatClampNeg) rfl dX8_land_75 g1 ?_
      refine h_nmI e1 ?_
      refine h_iinc (1 : Int32) dX8_land_76 rfl k_iinc_1 (by decide) rfl ?_
      refine h_goto (tgt := 50) dX8_land_79 (by decide) ?_
      exact (H50 _ _ h)
    · rw [if_pos q2] at h
      refine h_bipush (10 : Int32) dX8_land_69 k_bipush_10 ?_
      refine h_goto (tgt := 75) dX8_land_71 (by decide) ?_
      obtain ⟨g2, h⟩ := gd_some h
      obtain ⟨I2', e2, h⟩ := bnd_some h
      refine as_50  (((7 : Int32) + v2).toNatClampNeg) rfl dX8_land_75 g2 ?_
      refine h_nmI e2 ?_
      refine h_iinc (1 : Int32) dX8_land_76 rfl k_iinc_1 (by decide) rfl ?_
      refine h_goto (tgt := 50) dX8_land_79 (by decide) ?_
      exact (H50 _ _ h)
def f_X8_land_17   (I : Mem) : Option (Int32 × Mem) :=
  (f_X8_fail I (1 : Int32)).bind fun y1 =>
  some (y1.1, y1.2)
theorem b_X8_land_17 (X : CX) (Q : State → Prop) {I : Mem} {P : PMem} {O : Nat → Int64} {D : Bool} {n : Nat} {r : (Int32 × Mem)}  (h : f_X8_land_17 I = some r) (E : EndR X cX8_land RX8 3 (some .int) 162 n (some (.inl r.1)) r.2 P O D Q) : Here X cX8_land RX8 3 (some .int) 162 n 17 [some (.inr (.inr (8, 0, 0))), none, none] [] I P O D n Q := by
  unfold f_X8_land_17 at h
  refine h_aload_n dX8_land_17 rfl ?_
  refine h_iconst (1 : Int32) dX8_land_18 k_iconst_1 ?_
  obtain ⟨y1, hh1, h⟩ := obd_some h
  refine h_cVi [.inl (1 : Int32)] (m_X8_fail  hh1) cw_X8_298 dX8_land_19 rfl ok_8 (by decide) rfl (Or.inr rfl) rfl ?_
  cases h
  exact h_iret dX8_land_22 rfl E
def f_X8_land   (I : Mem) (v1 : Int32) : Option (Int32 × Mem) :=
  bnd (upd4 I 8 0 0 2 (0 : Int32)) fun I1' =>
  if v1 < 0 then (f_X8_land_17 I1') else (if v1 ≤ (I1' 8 0 0 14) then (bnd (upd4 I1' 8 0 0 14 (0 : Int32)) fun I2' =>
  bnd (upd4 I2' 8 0 0 16 v1) fun I3' =>
  bnd (upd4 I3' 8 0 0 15 (0 : Int32)) fun I4' =>
  bnd (upd4 I4' 8 0 0 21 (0 : Int32)) fun I5' =>
  bnd (upd4 I5' 8 0 0 23 (-1 : Int32)) fun I6' =>
  f_X8_land_50 FU I6' (0 : Int32)) else (f_X8_land_17 I1'))
theorem b_X8_land (X : CX) (Q : State → Prop) {I : Mem} {P : PMem} {O : Nat → Int64} {D : Bool} {n : Nat} {v1 : Int32} {r : (Int32 × Mem)}  (h : f_X8_land I v1 = some r) (E : EndR X cX8_land RX8 3 (some .int) 162 n (some (.inl r.1)) r.2 P O D Q) : Here X cX8_land RX8 3 (some .int) 162 n 0 [some (.inr (.inr (8, 0, 0))), some (.inl v1), none] [] I P O D n Q := by
  unfold f_X8_land at h
  refine h_aload_n dX8_land_0 rfl ?_
  refine h_iconst (0 : Int32) dX8_land_1 k_iconst_0 ?_
  obtain ⟨I1', e1, h⟩ := bnd_some h
  refine p_X8_150  dX8_land_2 ?_
  refine h_nmI e1 ?_
  refine h_iload_n dX8_land_5 rfl ?_
  refine h_if_lt (tgt := 17) dX8_land_6 (by decide) (fun q1 => ?_) (fun q1 => ?_)
  · rw [if_pos q1] at h
    exact h_mask [true, false, false] (b_X8_land_17 X Q  h E)
  · rw [if_neg q1] at h
    refine h_iload_n dX8_land_9 rfl ?_
    refine h_aload_n dX8_land_10 rfl ?_
    refine g_X8_157  dX8_land_11 ?_
    refine h_icmp_le (tgt := 23) dX8_land_14 (by decide) (fun q2 => ?_) (fun q2 => ?_)
    · rw [if_pos q2] at h
      refine h_aload_n dX8_land_23 rfl ?_
      refine h_iconst (0 : Int32) dX8_land_24 k_iconst_0 ?_
      obtain ⟨I2', e2, h⟩ := bnd_some h
      refine p_X8_157  dX8_land_25 ?_
      refine h_nmI e2 ?_
      refine h_aload_n dX8_land_28 rfl ?_
      refine h_iload_n dX8_land_29 rfl ?_
      obtain ⟨I3', e3, h⟩ := bnd_some h
      refine p_X8_160  dX8_land_30 ?_
      refine h_nmI e3 ?_
      refine h_aload_n dX8_land_33 rfl ?_
      refine h_iconst (0 : Int32) dX8_land_34 k_iconst_0 ?_
      obtain ⟨I4', e4, h⟩ := bnd_some h
      refine p_X8_163  dX8_land_35 ?_
      refine h_nmI e4 ?_
      refine h_aload_n dX8_land_38 rfl ?_
      refine h_iconst (0 : Int32) dX8_land_39 k_iconst_0 ?_
      obtain ⟨I5', e5, h⟩ := bnd_some h
      refine p_X8_199  dX8_land_40 ?_
      refine h_nmI e5 ?_
      refine h_aload_n dX8_land_43 rfl ?_
      refine h_iconst (-1 : Int32) dX8_land_44 k_iconst_m1 ?_
      obtain ⟨I6', e6, h⟩ := bnd_some h
      refine p_X8_66  dX8_land_45 ?_
      refine h_nmI e6 ?_
      refine h_iconst (0 : Int32) dX8_land_48 k_iconst_0 ?_
      refine h_istore_n dX8_land_49 (by decide) rfl ?_
      exact h_mask [true, false, true] (b_X8_land_50 X Q FU  h E)
    · rw [if_neg q2] at h
      exact h_mask [true, false, false] (b_X8_land_17 X Q  h E)
theorem m_X8_land {I : Mem} {P : PMem} {O : Nat → Int64} {D : Bool} {n : Nat} {v1 : Int32} {r : (Int32 × Mem)}  (h : f_X8_land I v1 = some r) : MethR yX8_land cX8_land 3 (some .int) 162 [.inr (.inr (8, 0, 0)), .inl v1] I P O D n (some (.inl r.1)) r.2 P O D n := meth_R (Nat.le_refl _) (by decide) rfl (Nat.le_of_ble_eq_true rfl) rfl (fun X Q E => b_X8_land X Q  h E)
def f_X8_fault   (I : Mem) : Option (Int32 × Mem) :=
  bnd (upd4 I 8 0 0 2 (0 : Int32)) fun I1' =>
  some ((I1' 8 0 0 23), I1')
theorem b_X8_fault (X : CX) (Q : State → Prop) {I : Mem} {P : PMem} {O : Nat → Int64} {D : Bool} {n : Nat} {r : (Int32 × Mem)}  (h : f_X8_fault I = some r) (E : EndR X cX8_fault RX8 1 (some .int) 2 n (some (.inl r.1)) r.2 P O D Q) : Here X cX8_fault RX8 1 (some .int) 2 n 0 [some (.inr (.inr (8, 0, 0)))] [] I P O D n Q := by
  unfold f_X8_fault at h
  refine h_aload_n dX8_fault_0 rfl ?_
  refine h_iconst (0 : Int32) dX8_fault_1 k_iconst_0 ?_
  obtain ⟨I1', e1, h⟩ := bnd_some h
  refine p_X8_150  dX8_fault_2 ?_
  refine h_nmI e1 ?_
  refine h_aload_n dX8_fault_5 rfl ?_
  refine g_X8_66  dX8_fault_6 ?_
  cases h
  exact h_iret dX8_fault_9 rfl E
theorem m_X8_fault {I : Mem} {P : PMem} {O : Nat → Int64} {D : Bool} {n : Nat}  {r : (Int32 × Mem)}  (h : f_X8_fault I = some r) : MethR yX8_fault cX8_fault 1 (some .int) 2 [.inr (.inr (8, 0, 0))] I P O D n (some (.inl r.1)) r.2 P O D n := meth_R (Nat.le_refl _) (by decide) rfl (Nat.le_of_ble_eq_true rfl) rfl (fun X Q E => b_X8_fault X Q  h E)
def f_X8_newsDays  (I : Mem) (v1 : Int32) (v2 : Int32) : Option (Int32) :=
  (f_X8_couple I v1 v2).bind fun y1 =>
  gd (inb y1 81) <|
  bnd (I 61 0 0 y1.toNatClampNeg) fun x1 =>
  if x1 < (100000 : Int32) then (some (((x1 * (I 50 0 0 3)) + (9 : Int32)) / (10 : Int32))) else (some (100000 : Int32))
theorem b_X8_newsDays (X : CX) (Q : State → Prop) {I : Mem} {P : PMem} {O : Nat → Int64} {D : Bool} {n : Nat} {v1 : Int32} {v2 : Int32} {r : (Int32)}  (h : f_X8_newsDays I v1 v2 = some r) (E : EndR X cX8_newsDays RX8 4 (some .int) 3 n (some (.inl r)) I P O D Q) : Here X cX8_newsDays RX8 4 (some .int) 3 n 0 [some (.inr (.inr (8, 0, 0))), some (.inl v1), some (.inl v2), none] [] I P O D n Q := by
  unfold f_X8_newsDays at h
  refine h_aload_n dX8_newsDays_0 rfl ?_
  refine g_X8_70  dX8_newsDays_1 ?_
  refine h_iload_n dX8_newsDays_4 rfl ?_
  refine h_iload_n dX8_newsDays_5 rfl ?_
  obtain ⟨y1, hh1, h⟩ := obd_some h
  refine h_cSi [.inl v1, .inl v2] (m_X8_couple  hh1) cs_X8_276 dX8_newsDays_6 rfl (by decide) rfl (Or.inr rfl) rfl ?_
  obtain ⟨g1, h⟩ := gd_some h
  refine al_61  y1.toNatClampNeg rfl dX8_newsDays_9 g1 ?_
  obtain ⟨x1, e1, h⟩ := bnd_some h
  refine h_nmv e1 ?_
  refine h_istore_n dX8_newsDays_10 (by decide) rfl ?_
  refine h_iload_n dX8_newsDays_11 rfl ?_
  refine h_ldci (100000 : Int32) dX8_newsDays_12 kc_X8_186 ?_
  refine h_icmp_lt (tgt := 22) dX8_newsDays_14 (by decide) (fun q1 => ?_) (fun q1 => ?_)
  · rw [if_pos q1] at h
    refine h_iload_n dX8_newsDays_22 rfl ?_
    refine h_aload_n dX8_newsDays_23 rfl ?_
    refine g_X8_34  dX8_newsDays_24 ?_
    refine h_iconst (3 : Int32) dX8_newsDays_27 k_iconst_3 ?_
    refine al_50  3 cl_3 dX8_newsDays_28 rfl ?_
    refine h_imul dX8_newsDays_29 ?_
    refine h_bipush (9 : Int32) dX8_newsDays_30 k_bipush_9 ?_
    refine h_iadd dX8_newsDays_32 ?_
    refine h_bipush (10 : Int32) dX8_newsDays_33 k_bipush_10 ?_
    refine h_div dX8_newsDays_35 (by decide) ?_
    cases h
    exact h_iret dX8_newsDays_36 rfl E
  · rw [if_neg q1] at h
    refine h_ldci (100000 : Int32) dX8_newsDays_17 kc_X8_186 ?_
    refine h_goto (tgt := 36) dX8_newsDays_19 (by decide) ?_
    cases h
    exact h_iret dX8_newsDays_36 rfl E
theorem m_X8_newsDays {I : Mem} {P : PMem} {O : Nat → Int64} {D : Bool} {n : Nat} {v1 : Int32} {v2 : Int32} {r : (Int32)}  (h : f_X8_newsDays I v1 v2 = some r) : MethR yX8_newsDays cX8_newsDays 4 (some .int) 3 [.inr (.inr (8, 0, 0)), .inl v1, .inl v2] I P O D n (some (.inl r)) I P O D n := meth_R (Nat.le_refl _) (by decide) rfl (Nat.le_of_ble_eq_true rfl) rfl (fun X Q E => b_X8_newsDays X Q  h E)
