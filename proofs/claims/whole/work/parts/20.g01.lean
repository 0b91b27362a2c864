theorem dX4_gives_0 : decode cX4_gives 0 = .ok (.aload_n 0, 1) := by decide +kernel
theorem dX4_gives_1 : decode cX4_gives 1 = .ok (.getfield 21, 3) := by decide +kernel
theorem dX4_gives_4 : decode cX4_gives 4 = .ok (.ifCond .ne 14, 3) := by decide +kernel
theorem dX4_gives_7 : decode cX4_gives 7 = .ok (.iload_n 1, 1) := by decide +kernel
theorem dX4_gives_8 : decode cX4_gives 8 = .ok (.iconst 4, 1) := by decide +kernel
theorem dX4_gives_9 : decode cX4_gives 9 = .ok (.if_icmp .le 7, 3) := by decide +kernel
theorem dX4_gives_12 : decode cX4_gives 12 = .ok (.iconst 1, 1) := by decide +kernel
theorem dX4_gives_13 : decode cX4_gives 13 = .ok (.goto 4, 3) := by decide +kernel
theorem dX4_gives_16 : decode cX4_gives 16 = .ok (.iconst 0, 1) := by decide +kernel
theorem dX4_gives_17 : decode cX4_gives 17 = .ok (.ireturn, 1) := by decide +kernel
theorem dX4_gives_18 : decode cX4_gives 18 = .ok (.aload_n 0, 1) := by decide +kernel
theorem dX4_gives_19 : decode cX4_gives 19 = .ok (.getfield 18, 3) := by decide +kernel
theorem dX4_gives_22 : decode cX4_gives 22 = .ok (.iconst 0, 1) := by decide +kernel
theorem dX4_gives_23 : decode cX4_gives 23 = .ok (.iload_n 1, 1) := by decide +kernel
theorem dX4_gives_24 : decode cX4_gives 24 = .ok (.iastore, 1) := by decide +kernel
theorem dX4_gives_25 : decode cX4_gives 25 = .ok (.aload_n 0, 1) := by decide +kernel
theorem dX4_gives_26 : decode cX4_gives 26 = .ok (.getfield 18, 3) := by decide +kernel
theorem dX4_gives_29 : decode cX4_gives 29 = .ok (.iconst 1, 1) := by decide +kernel
theorem dX4_gives_30 : decode cX4_gives 30 = .ok (.iload_n 2, 1) := by decide +kernel
theorem dX4_gives_31 : decode cX4_gives 31 = .ok (.iastore, 1) := by decide +kernel
theorem dX4_gives_32 : decode cX4_gives 32 = .ok (.aload_n 0, 1) := by decide +kernel
theorem dX4_gives_33 : decode cX4_gives 33 = .ok (.getfield 18, 3) := by decide +kernel
theorem dX4_gives_36 : decode cX4_gives 36 = .ok (.iconst 2, 1) := by decide +kernel
theorem dX4_gives_37 : decode cX4_gives 37 = .ok (.iload_n 3, 1) := by decide +kernel
theorem dX4_gives_38 : decode cX4_gives 38 = .ok (.iastore, 1) := by decide +kernel
theorem dX4_gives_39 : decode cX4_gives 39 = .ok (.aload_n 0, 1) := by decide +kernel
theorem dX4_gives_40 : decode cX4_gives 40 = .ok (.getfield 18, 3) := by decide +kernel
theorem dX4_gives_43 : decode cX4_gives 43 = .ok (.iconst 3, 1) := by decide +kernel
theorem dX4_gives_44 : decode cX4_gives 44 = .ok (.iload 4, 2) := by decide +kernel
theorem dX4_gives_46 : decode cX4_gives 46 = .ok (.iastore, 1) := by decide +kernel
theorem dX4_gives_47 : decode cX4_gives 47 = .ok (.aload_n 0, 1) := by decide +kernel
theorem dX4_gives_48 : decode cX4_gives 48 = .ok (.getfield 18, 3) := by decide +kernel
theorem dX4_gives_51 : decode cX4_gives 51 = .ok (.iconst 4, 1) := by decide +kernel
theorem dX4_gives_52 : decode cX4_gives 52 = .ok (.iload 5, 2) := by decide +kernel
theorem dX4_gives_54 : decode cX4_gives 54 = .ok (.iastore, 1) := by decide +kernel
theorem dX4_gives_55 : decode cX4_gives 55 = .ok (.iconst 0, 1) := by decide +kernel
theorem dX4_gives_56 : decode cX4_gives 56 = .ok (.istore 6, 2) := by decide +kernel
theorem dX4_gives_58 : decode cX4_gives 58 = .ok (.iconst 0, 1) := by decide +kernel
theorem dX4_gives_59 : decode cX4_gives 59 = .ok (.istore 7, 2) := by decide +kernel
theorem dX4_gives_61 : decode cX4_gives 61 = .ok (.iload 7, 2) := by decide +kernel
theorem dX4_gives_63 : decode cX4_gives 63 = .ok (.aload_n 0, 1) := by decide +kernel
theorem dX4_gives_64 : decode cX4_gives 64 = .ok (.getfield 21, 3) := by decide +kernel
theorem dX4_gives_67 : decode cX4_gives 67 = .ok (.if_icmp .ge 155, 3) := by decide +kernel
theorem dX4_gives_70 : decode cX4_gives 70 = .ok (.aload_n 0, 1) := by decide +kernel
theorem dX4_gives_71 : decode cX4_gives 71 = .ok (.getfield 9, 3) := by decide +kernel
theorem dX4_gives_74 : decode cX4_gives 74 = .ok (.iload 7, 2) := by decide +kernel
theorem dX4_gives_76 : decode cX4_gives 76 = .ok (.iaload, 1) := by decide +kernel
theorem dX4_gives_77 : decode cX4_gives 77 = .ok (.istore 8, 2) := by decide +kernel
theorem dX4_gives_79 : decode cX4_gives 79 = .ok (.iload 8, 2) := by decide +kernel
theorem dX4_gives_81 : decode cX4_gives 81 = .ok (.sipush 10004, 3) := by decide +kernel
theorem dX4_gives_84 : decode cX4_gives 84 = .ok (.if_icmp .gt 50, 3) := by decide +kernel
theorem dX4_gives_87 : decode cX4_gives 87 = .ok (.iload 6, 2) := by decide +kernel
theorem dX4_gives_89 : decode cX4_gives 89 = .ok (.aload_n 0, 1) := by decide +kernel
theorem dX4_gives_90 : decode cX4_gives 90 = .ok (.getfield 15, 3) := by decide +kernel
theorem dX4_gives_93 : decode cX4_gives 93 = .ok (.arraylength, 1) := by decide +kernel
theorem dX4_gives_94 : decode cX4_gives 94 = .ok (.if_icmp .ge 122, 3) := by decide +kernel
theorem dX4_gives_97 : decode cX4_gives 97 = .ok (.aload_n 0, 1) := by decide +kernel
theorem dX4_gives_98 : decode cX4_gives 98 = .ok (.getfield 15, 3) := by decide +kernel
theorem dX4_gives_101 : decode cX4_gives 101 = .ok (.iload 6, 2) := by decide +kernel
theorem dX4_gives_103 : decode cX4_gives 103 = .ok (.iload 8, 2) := by decide +kernel
theorem dX4_gives_105 : decode cX4_gives 105 = .ok (.sipush 9999, 3) := by decide +kernel
theorem dX4_gives_108 : decode cX4_gives 108 = .ok (.if_icmp .gt 8, 3) := by decide +kernel
theorem dX4_gives_111 : decode cX4_gives 111 = .ok (.iload 8, 2) := by decide +kernel
theorem dX4_gives_113 : decode cX4_gives 113 = .ok (.goto 14, 3) := by decide +kernel
theorem dX4_gives_116 : decode cX4_gives 116 = .ok (.aload_n 0, 1) := by decide +kernel
theorem dX4_gives_117 : decode cX4_gives 117 = .ok (.getfield 18, 3) := by decide +kernel
theorem dX4_gives_120 : decode cX4_gives 120 = .ok (.iload 8, 2) := by decide +kernel
theorem dX4_gives_122 : decode cX4_gives 122 = .ok (.sipush 10000, 3) := by decide +kernel
theorem dX4_gives_125 : decode cX4_gives 125 = .ok (.isub, 1) := by decide +kernel
theorem dX4_gives_126 : decode cX4_gives 126 = .ok (.iaload, 1) := by decide +kernel
theorem dX4_gives_127 : decode cX4_gives 127 = .ok (.iastore, 1) := by decide +kernel
theorem dX4_gives_128 : decode cX4_gives 128 = .ok (.iinc 6 1, 3) := by decide +kernel
theorem dX4_gives_131 : decode cX4_gives 131 = .ok (.goto 85, 3) := by decide +kernel
theorem dX4_gives_134 : decode cX4_gives 134 = .ok (.iload 8, 2) := by decide +kernel
theorem dX4_gives_136 : decode cX4_gives 136 = .ok (.sipush 10007, 3) := by decide +kernel
theorem dX4_gives_139 : decode cX4_gives 139 = .ok (.if_icmp .ne 38, 3) := by decide +kernel
theorem dX4_gives_142 : decode cX4_gives 142 = .ok (.iload 6, 2) := by decide +kernel
theorem dX4_gives_144 : decode cX4_gives 144 = .ok (.iconst 1, 1) := by decide +kernel
theorem dX4_gives_145 : decode cX4_gives 145 = .ok (.if_icmp .lt 71, 3) := by decide +kernel
theorem dX4_gives_148 : decode cX4_gives 148 = .ok (.aload_n 0, 1) := by decide +kernel
theorem dX4_gives_149 : decode cX4_gives 149 = .ok (.getfield 15, 3) := by decide +kernel
theorem dX4_gives_152 : decode cX4_gives 152 = .ok (.iload 6, 2) := by decide +kernel
theorem dX4_gives_154 : decode cX4_gives 154 = .ok (.iconst 1, 1) := by decide +kernel
theorem dX4_gives_155 : decode cX4_gives 155 = .ok (.isub, 1) := by decide +kernel
theorem dX4_gives_156 : decode cX4_gives 156 = .ok (.aload_n 0, 1) := by decide +kernel
theorem dX4_gives_157 : decode cX4_gives 157 = .ok (.getfield 15, 3) := by decide +kernel
theorem dX4_gives_160 : decode cX4_gives 160 = .ok (.iload 6, 2) := by decide +kernel
theorem dX4_gives_162 : decode cX4_gives 162 = .ok (.iconst 1, 1) := by decide +kernel
theorem dX4_gives_163 : decode cX4_gives 163 = .ok (.isub, 1) := by decide +kernel
theorem dX4_gives_164 : decode cX4_gives 164 = .ok (.iaload, 1) := by decide +kernel
theorem dX4_gives_165 : decode cX4_gives 165 = .ok (.ifCond .ne 7, 3) := by decide +kernel
theorem dX4_gives_168 : decode cX4_gives 168 = .ok (.iconst 1, 1) := by decide +kernel
theorem dX4_gives_169 : decode cX4_gives 169 = .ok (.goto 4, 3) := by decide +kernel
theorem dX4_gives_172 : decode cX4_gives 172 = .ok (.iconst 0, 1) := by decide +kernel
theorem dX4_gives_173 : decode cX4_gives 173 = .ok (.iastore, 1) := by decide +kernel
theorem dX4_gives_174 : decode cX4_gives 174 = .ok (.goto 42, 3) := by decide +kernel
theorem dX4_gives_177 : decode cX4_gives 177 = .ok (.iload 6, 2) := by decide +kernel
theorem dX4_gives_179 : decode cX4_gives 179 = .ok (.iconst 2, 1) := by decide +kernel
theorem dX4_gives_180 : decode cX4_gives 180 = .ok (.if_icmp .lt 36, 3) := by decide +kernel
theorem dX4_gives_183 : decode cX4_gives 183 = .ok (.iinc 6 (-1), 3) := by decide +kernel
theorem dX4_gives_186 : decode cX4_gives 186 = .ok (.aload_n 0, 1) := by decide +kernel
theorem dX4_gives_187 : decode cX4_gives 187 = .ok (.getfield 15, 3) := by decide +kernel
theorem dX4_gives_190 : decode cX4_gives 190 = .ok (.iload 6, 2) := by decide +kernel
theorem dX4_gives_192 : decode cX4_gives 192 = .ok (.iconst 1, 1) := by decide +kernel
theorem dX4_gives_193 : decode cX4_gives 193 = .ok (.isub, 1) := by decide +kernel
theorem dX4_gives_194 : decode cX4_gives 194 = .ok (.iload 8, 2) := by decide +kernel
theorem dX4_gives_196 : decode cX4_gives 196 = .ok (.aload_n 0, 1) := by decide +kernel
theorem dX4_gives_197 : decode cX4_gives 197 = .ok (.getfield 15, 3) := by decide +kernel
theorem dX4_gives_200 : decode cX4_gives 200 = .ok (.iload 6, 2) := by decide +kernel
theorem dX4_gives_202 : decode cX4_gives 202 = .ok (.iconst 1, 1) := by decide +kernel
theorem dX4_gives_203 : decode cX4_gives 203 = .ok (.isub, 1) := by decide +kernel
theorem dX4_gives_204 : decode cX4_gives 204 = .ok (.iaload, 1) := by decide +kernel
theorem dX4_gives_205 : decode cX4_gives 205 = .ok (.aload_n 0, 1) := by decide +kernel
theorem dX4_gives_206 : decode cX4_gives 206 = .ok (.getfield 15, 3) := by decide +kernel
theorem dX4_gives_209 : decode cX4_gives 209 = .ok (.iload 6, 2) := by decide +kernel
theorem dX4_gives_211 : decode cX4_gives 211 = .ok (.iaload, 1) := by decide +kernel
theorem dX4_gives_212 : decode cX4_gives 212 = .ok (.invokestatic 25, 3) := by decide +kernel
theorem dX4_gives_215 : decode cX4_gives 215 = .ok (.iastore, 1) := by decide +kernel
theorem dX4_gives_216 : decode cX4_gives 216 = .ok (.iinc 7 1, 3) := by decide +kernel
theorem dX4_gives_219 : decode cX4_gives 219 = .ok (.goto (-158), 3) := by decide +kernel
theorem dX4_gives_222 : decode cX4_gives 222 = .ok (.aload_n 0, 1) := by decide +kernel
theorem dX4_gives_223 : decode cX4_gives 223 = .ok (.getfield 15, 3) := by decide +kernel
theorem dX4_gives_226 : decode cX4_gives 226 = .ok (.iconst 0, 1) := by decide +kernel
theorem dX4_gives_227 : decode cX4_gives 227 = .ok (.iaload, 1) := by decide +kernel
theorem dX4_gives_228 : decode cX4_gives 228 = .ok (.ireturn, 1) := by decide +kernel
theorem dX1_hearIn_0 : decode cX1_hearIn 0 = .ok (.aload_n 0, 1) := by decide +kernel
theorem dX1_hearIn_1 : decode cX1_hearIn 1 = .ok (.iload_n 1, 1) := by decide +kernel
theorem dX1_hearIn_2 : decode cX1_hearIn 2 = .ok (.iload_n 3, 1) := by decide +kernel
theorem dX1_hearIn_3 : decode cX1_hearIn 3 = .ok (.invokevirtual 116, 3) := by decide +kernel
theorem dX1_hearIn_6 : decode cX1_hearIn 6 = .ok (.ifCond .eq 4, 3) := by decide +kernel
theorem dX1_hearIn_9 : decode cX1_hearIn 9 = .ok (.return_, 1) := by decide +kernel
theorem dX1_hearIn_10 : decode cX1_hearIn 10 = .ok (.iconst 0, 1) := by decide +kernel
theorem dX1_hearIn_11 : decode cX1_hearIn 11 = .ok (.istore 4, 2) := by decide +kernel
theorem dX1_hearIn_13 : decode cX1_hearIn 13 = .ok (.iload 4, 2) := by decide +kernel
theorem dX1_hearIn_15 : decode cX1_hearIn 15 = .ok (.aload_n 0, 1) := by decide +kernel
theorem dX1_hearIn_16 : decode cX1_hearIn 16 = .ok (.getfield 44, 3) := by decide +kernel
theorem dX1_hearIn_19 : decode cX1_hearIn 19 = .ok (.getfield 95, 3) := by decide +kernel
theorem dX1_hearIn_22 : decode cX1_hearIn 22 = .ok (.if_icmp .ge 147, 3) := by decide +kernel
theorem dX1_hearIn_25 : decode cX1_hearIn 25 = .ok (.aload_n 0, 1) := by decide +kernel
theorem dX1_hearIn_26 : decode cX1_hearIn 26 = .ok (.getfield 44, 3) := by decide +kernel
theorem dX1_hearIn_29 : decode cX1_hearIn 29 = .ok (.getfield 120, 3) := by decide +kernel
theorem dX1_hearIn_32 : decode cX1_hearIn 32 = .ok (.iload 4, 2) := by decide +kernel
theorem dX1_hearIn_34 : decode cX1_hearIn 34 = .ok (.aaload, 1) := by decide +kernel
theorem dX1_hearIn_35 : decode cX1_hearIn 35 = .ok (.iload_n 1, 1) := by decide +kernel
theorem dX1_hearIn_36 : decode cX1_hearIn 36 = .ok (.iaload, 1) := by decide +kernel
theorem dX1_hearIn_37 : decode cX1_hearIn 37 = .ok (.istore 5, 2) := by decide +kernel
theorem dX1_hearIn_39 : decode cX1_hearIn 39 = .ok (.iload 5, 2) := by decide +kernel
theorem dX1_hearIn_41 : decode cX1_hearIn 41 = .ok (.iconst (-1), 1) := by decide +kernel
theorem dX1_hearIn_42 : decode cX1_hearIn 42 = .ok (.if_icmp .eq 121, 3) := by decide +kernel
theorem dX1_hearIn_45 : decode cX1_hearIn 45 = .ok (.aload_n 0, 1) := by decide +kernel
theorem dX1_hearIn_46 : decode cX1_hearIn 46 = .ok (.getfield 19, 3) := by decide +kernel
theorem dX1_hearIn_49 : decode cX1_hearIn 49 = .ok (.iload 4, 2) := by decide +kernel
theorem dX1_hearIn_51 : decode cX1_hearIn 51 = .ok (.aaload, 1) := by decide +kernel
theorem dX1_hearIn_52 : decode cX1_hearIn 52 = .ok (.iload_n 2, 1) := by decide +kernel
theorem dX1_hearIn_53 : decode cX1_hearIn 53 = .ok (.iaload, 1) := by decide +kernel
theorem dX1_hearIn_54 : decode cX1_hearIn 54 = .ok (.iconst (-1), 1) := by decide +kernel
theorem dX1_hearIn_55 : decode cX1_hearIn 55 = .ok (.if_icmp .ne 108, 3) := by decide +kernel
theorem dX1_hearIn_58 : decode cX1_hearIn 58 = .ok (.aload_n 0, 1) := by decide +kernel
theorem dX1_hearIn_59 : decode cX1_hearIn 59 = .ok (.iload 4, 2) := by decide +kernel
theorem dX1_hearIn_61 : decode cX1_hearIn 61 = .ok (.iload_n 3, 1) := by decide +kernel
theorem dX1_hearIn_62 : decode cX1_hearIn 62 = .ok (.invokevirtual 123, 3) := by decide +kernel
theorem dX1_hearIn_65 : decode cX1_hearIn 65 = .ok (.istore 6, 2) := by decide +kernel
theorem dX1_hearIn_67 : decode cX1_hearIn 67 = .ok (.aload_n 0, 1) := by decide +kernel
theorem dX1_hearIn_68 : decode cX1_hearIn 68 = .ok (.getfield 44, 3) := by decide +kernel
theorem dX1_hearIn_71 : decode cX1_hearIn 71 = .ok (.getfield 127, 3) := by decide +kernel
theorem dX1_hearIn_74 : decode cX1_hearIn 74 = .ok (.iload 5, 2) := by decide +kernel
theorem dX1_hearIn_76 : decode cX1_hearIn 76 = .ok (.aload_n 0, 1) := by decide +kernel
theorem dX1_hearIn_77 : decode cX1_hearIn 77 = .ok (.getfield 44, 3) := by decide +kernel
theorem dX1_hearIn_80 : decode cX1_hearIn 80 = .ok (.getfield 131, 3) := by decide +kernel
theorem dX1_hearIn_83 : decode cX1_hearIn 83 = .ok (.iload_n 2, 1) := by decide +kernel
theorem dX1_hearIn_84 : decode cX1_hearIn 84 = .ok (.iaload, 1) := by decide +kernel
theorem dX1_hearIn_85 : decode cX1_hearIn 85 = .ok (.iload_n 3, 1) := by decide +kernel
theorem dX1_hearIn_86 : decode cX1_hearIn 86 = .ok (.iload_n 1, 1) := by decide +kernel
theorem dX1_hearIn_87 : decode cX1_hearIn 87 = .ok (.iload 6, 2) := by decide +kernel
theorem dX1_hearIn_89 : decode cX1_hearIn 89 = .ok (.invokevirtual 134, 3) := by decide +kernel
theorem dX1_hearIn_92 : decode cX1_hearIn 92 = .ok (.ifCond .le 7, 3) := by decide +kernel
theorem dX1_hearIn_95 : decode cX1_hearIn 95 = .ok (.iconst 1, 1) := by decide +kernel
theorem dX1_hearIn_96 : decode cX1_hearIn 96 = .ok (.goto 4, 3) := by decide +kernel
theorem dX1_hearIn_99 : decode cX1_hearIn 99 = .ok (.iconst 0, 1) := by decide +kernel
theorem dX1_hearIn_100 : decode cX1_hearIn 100 = .ok (.istore 7, 2) := by decide +kernel
theorem dX1_hearIn_102 : decode cX1_hearIn 102 = .ok (.aload_n 0, 1) := by decide +kernel
theorem dX1_hearIn_103 : decode cX1_hearIn 103 = .ok (.getfield 44, 3) := by decide +kernel
theorem dX1_hearIn_106 : decode cX1_hearIn 106 = .ok (.getfield 70, 3) := by decide +kernel
theorem dX1_hearIn_109 : decode cX1_hearIn 109 = .ok (.iload_n 2, 1) := by decide +kernel
theorem dX1_hearIn_110 : decode cX1_hearIn 110 = .ok (.iaload, 1) := by decide +kernel
theorem dX1_hearIn_111 : decode cX1_hearIn 111 = .ok (.iconst 2, 1) := by decide +kernel
theorem dX1_hearIn_112 : decode cX1_hearIn 112 = .ok (.if_icmp .ne 7, 3) := by decide +kernel
theorem dX1_hearIn_115 : decode cX1_hearIn 115 = .ok (.iconst 1, 1) := by decide +kernel
theorem dX1_hearIn_116 : decode cX1_hearIn 116 = .ok (.goto 4, 3) := by decide +kernel
theorem dX1_hearIn_119 : decode cX1_hearIn 119 = .ok (.iconst 0, 1) := by decide +kernel
theorem dX1_hearIn_120 : decode cX1_hearIn 120 = .ok (.istore 8, 2) := by decide +kernel
theorem dX1_hearIn_122 : decode cX1_hearIn 122 = .ok (.aload_n 0, 1) := by decide +kernel
theorem dX1_hearIn_123 : decode cX1_hearIn 123 = .ok (.getfield 25, 3) := by decide +kernel
theorem dX1_hearIn_126 : decode cX1_hearIn 126 = .ok (.iload 4, 2) := by decide +kernel
theorem dX1_hearIn_128 : decode cX1_hearIn 128 = .ok (.aaload, 1) := by decide +kernel
theorem dX1_hearIn_129 : decode cX1_hearIn 129 = .ok (.iload_n 2, 1) := by decide +kernel
theorem dX1_hearIn_130 : decode cX1_hearIn 130 = .ok (.iload 7, 2) := by decide +kernel
theorem dX1_hearIn_132 : decode cX1_hearIn 132 = .ok (.iload 8, 2) := by decide +kernel
theorem dX1_hearIn_134 : decode cX1_hearIn 134 = .ok (.if_icmp .eq 7, 3) := by decide +kernel
theorem dX1_hearIn_137 : decode cX1_hearIn 137 = .ok (.iconst 1, 1) := by decide +kernel
theorem dX1_hearIn_138 : decode cX1_hearIn 138 = .ok (.goto 4, 3) := by decide +kernel
theorem dX1_hearIn_141 : decode cX1_hearIn 141 = .ok (.iconst 0, 1) := by decide +kernel
theorem dX1_hearIn_142 : decode cX1_hearIn 142 = .ok (.iastore, 1) := by decide +kernel
theorem dX1_hearIn_143 : decode cX1_hearIn 143 = .ok (.aload_n 0, 1) := by decide +kernel
theorem dX1_hearIn_144 : decode cX1_hearIn 144 = .ok (.getfield 19, 3) := by decide +kernel
theorem dX1_hearIn_147 : decode cX1_hearIn 147 = .ok (.iload 4, 2) := by decide +kernel
theorem dX1_hearIn_149 : decode cX1_hearIn 149 = .ok (.aaload, 1) := by decide +kernel
theorem dX1_hearIn_150 : decode cX1_hearIn 150 = .ok (.iload_n 2, 1) := by decide +kernel
theorem dX1_hearIn_151 : decode cX1_hearIn 151 = .ok (.iload_n 3, 1) := by decide +kernel
theorem dX1_hearIn_152 : decode cX1_hearIn 152 = .ok (.iastore, 1) := by decide +kernel
theorem dX1_hearIn_153 : decode cX1_hearIn 153 = .ok (.aload_n 0, 1) := by decide +kernel
theorem dX1_hearIn_154 : decode cX1_hearIn 154 = .ok (.getfield 22, 3) := by decide +kernel
theorem dX1_hearIn_157 : decode cX1_hearIn 157 = .ok (.iload 4, 2) := by decide +kernel
theorem dX1_hearIn_159 : decode cX1_hearIn 159 = .ok (.aaload, 1) := by decide +kernel
theorem dX1_hearIn_160 : decode cX1_hearIn 160 = .ok (.iload_n 2, 1) := by decide +kernel
theorem dX1_hearIn_161 : decode cX1_hearIn 161 = .ok (.iload_n 1, 1) := by decide +kernel
theorem dX1_hearIn_162 : decode cX1_hearIn 162 = .ok (.iastore, 1) := by decide +kernel
theorem dX1_hearIn_163 : decode cX1_hearIn 163 = .ok (.iinc 4 1, 3) := by decide +kernel
theorem dX1_hearIn_166 : decode cX1_hearIn 166 = .ok (.goto (-153), 3) := by decide +kernel
theorem dX1_hearIn_169 : decode cX1_hearIn 169 = .ok (.return_, 1) := by decide +kernel
theorem dX1_comesAcross_0 : decode cX1_comesAcross 0 = .ok (.aload_n 0, 1) := by decide +kernel
theorem dX1_comesAcross_1 : decode cX1_comesAcross 1 = .ok (.getfield 19, 3) := by decide +kernel
theorem dX1_comesAcross_4 : decode cX1_comesAcross 4 = .ok (.iload_n 1, 1) := by decide +kernel
theorem dX1_comesAcross_5 : decode cX1_comesAcross 5 = .ok (.aaload, 1) := by decide +kernel
theorem dX1_comesAcross_6 : decode cX1_comesAcross 6 = .ok (.iload_n 2, 1) := by decide +kernel
theorem dX1_comesAcross_7 : decode cX1_comesAcross 7 = .ok (.iaload, 1) := by decide +kernel
theorem dX1_comesAcross_8 : decode cX1_comesAcross 8 = .ok (.istore 5, 2) := by decide +kernel
theorem dX1_comesAcross_10 : decode cX1_comesAcross 10 = .ok (.iconst 0, 1) := by decide +kernel
theorem dX1_comesAcross_11 : decode cX1_comesAcross 11 = .ok (.istore 6, 2) := by decide +kernel
theorem dX1_comesAcross_13 : decode cX1_comesAcross 13 = .ok (.iload 6, 2) := by decide +kernel
theorem dX1_comesAcross_15 : decode cX1_comesAcross 15 = .ok (.aload_n 0, 1) := by decide +kernel
theorem dX1_comesAcross_16 : decode cX1_comesAcross 16 = .ok (.getfield 44, 3) := by decide +kernel
theorem dX1_comesAcross_19 : decode cX1_comesAcross 19 = .ok (.getfield 73, 3) := by decide +kernel
theorem dX1_comesAcross_22 : decode cX1_comesAcross 22 = .ok (.iload_n 2, 1) := by decide +kernel
theorem dX1_comesAcross_23 : decode cX1_comesAcross 23 = .ok (.iaload, 1) := by decide +kernel
theorem dX1_comesAcross_24 : decode cX1_comesAcross 24 = .ok (.if_icmp .ge 69, 3) := by decide +kernel
theorem dX1_comesAcross_27 : decode cX1_comesAcross 27 = .ok (.aload_n 0, 1) := by decide +kernel
theorem dX1_comesAcross_28 : decode cX1_comesAcross 28 = .ok (.getfield 16, 3) := by decide +kernel
theorem dX1_comesAcross_31 : decode cX1_comesAcross 31 = .ok (.iload_n 2, 1) := by decide +kernel
theorem dX1_comesAcross_32 : decode cX1_comesAcross 32 = .ok (.aaload, 1) := by decide +kernel
theorem dX1_comesAcross_33 : decode cX1_comesAcross 33 = .ok (.iload 6, 2) := by decide +kernel
theorem dX1_comesAcross_35 : decode cX1_comesAcross 35 = .ok (.iaload, 1) := by decide +kernel
theorem dX1_comesAcross_36 : decode cX1_comesAcross 36 = .ok (.iload 5, 2) := by decide +kernel
theorem dX1_comesAcross_38 : decode cX1_comesAcross 38 = .ok (.if_icmp .gt 55, 3) := by decide +kernel
theorem dX1_comesAcross_41 : decode cX1_comesAcross 41 = .ok (.aload_n 0, 1) := by decide +kernel
theorem dX1_comesAcross_42 : decode cX1_comesAcross 42 = .ok (.getfield 44, 3) := by decide +kernel
theorem dX1_comesAcross_45 : decode cX1_comesAcross 45 = .ok (.getfield 169, 3) := by decide +kernel
theorem dX1_comesAcross_48 : decode cX1_comesAcross 48 = .ok (.iload_n 3, 1) := by decide +kernel
theorem dX1_comesAcross_49 : decode cX1_comesAcross 49 = .ok (.aaload, 1) := by decide +kernel
theorem dX1_comesAcross_50 : decode cX1_comesAcross 50 = .ok (.aload_n 0, 1) := by decide +kernel
theorem dX1_comesAcross_51 : decode cX1_comesAcross 51 = .ok (.getfield 11, 3) := by decide +kernel
theorem dX1_comesAcross_54 : decode cX1_comesAcross 54 = .ok (.iload_n 2, 1) := by decide +kernel
theorem dX1_comesAcross_55 : decode cX1_comesAcross 55 = .ok (.aaload, 1) := by decide +kernel
theorem dX1_comesAcross_56 : decode cX1_comesAcross 56 = .ok (.iload 6, 2) := by decide +kernel
theorem dX1_comesAcross_58 : decode cX1_comesAcross 58 = .ok (.iaload, 1) := by decide +kernel
theorem dX1_comesAcross_59 : decode cX1_comesAcross 59 = .ok (.iaload, 1) := by decide +kernel
theorem dX1_comesAcross_60 : decode cX1_comesAcross 60 = .ok (.istore 7, 2) := by decide +kernel
theorem dX1_comesAcross_62 : decode cX1_comesAcross 62 = .ok (.iload 7, 2) := by decide +kernel
theorem dX1_comesAcross_64 : decode cX1_comesAcross 64 = .ok (.iconst (-1), 1) := by decide +kernel
theorem dX1_comesAcross_65 : decode cX1_comesAcross 65 = .ok (.if_icmp .eq 22, 3) := by decide +kernel
theorem dX1_comesAcross_68 : decode cX1_comesAcross 68 = .ok (.iload 4, 2) := by decide +kernel
theorem dX1_comesAcross_70 : decode cX1_comesAcross 70 = .ok (.iload 7, 2) := by decide +kernel
theorem dX1_comesAcross_72 : decode cX1_comesAcross 72 = .ok (.iadd, 1) := by decide +kernel
theorem dX1_comesAcross_73 : decode cX1_comesAcross 73 = .ok (.aload_n 0, 1) := by decide +kernel
theorem dX1_comesAcross_74 : decode cX1_comesAcross 74 = .ok (.getfield 16, 3) := by decide +kernel
theorem dX1_comesAcross_77 : decode cX1_comesAcross 77 = .ok (.iload_n 2, 1) := by decide +kernel
theorem dX1_comesAcross_78 : decode cX1_comesAcross 78 = .ok (.aaload, 1) := by decide +kernel
theorem dX1_comesAcross_79 : decode cX1_comesAcross 79 = .ok (.iload 6, 2) := by decide +kernel
theorem dX1_comesAcross_81 : decode cX1_comesAcross 81 = .ok (.iaload, 1) := by decide +kernel
theorem dX1_comesAcross_82 : decode cX1_comesAcross 82 = .ok (.if_icmp .gt 5, 3) := by decide +kernel
theorem dX1_comesAcross_85 : decode cX1_comesAcross 85 = .ok (.iconst 1, 1) := by decide +kernel
theorem dX1_comesAcross_86 : decode cX1_comesAcross 86 = .ok (.ireturn, 1) := by decide +kernel
theorem dX1_comesAcross_87 : decode cX1_comesAcross 87 = .ok (.iinc 6 1, 3) := by decide +kernel
theorem dX1_comesAcross_90 : decode cX1_comesAcross 90 = .ok (.goto (-77), 3) := by decide +kernel
theorem dX1_comesAcross_93 : decode cX1_comesAcross 93 = .ok (.iconst 0, 1) := by decide +kernel
theorem dX1_comesAcross_94 : decode cX1_comesAcross 94 = .ok (.ireturn, 1) := by decide +kernel
theorem dX1_reachedByWord_0 : decode cX1_reachedByWord 0 = .ok (.iconst 0, 1) := by decide +kernel
theorem dX1_reachedByWord_1 : decode cX1_reachedByWord 1 = .ok (.istore 4, 2) := by decide +kernel
theorem dX1_reachedByWord_3 : decode cX1_reachedByWord 3 = .ok (.iconst 0, 1) := by decide +kernel
theorem dX1_reachedByWord_4 : decode cX1_reachedByWord 4 = .ok (.istore 5, 2) := by decide +kernel
theorem dX1_reachedByWord_6 : decode cX1_reachedByWord 6 = .ok (.iload 5, 2) := by decide +kernel
theorem dX1_reachedByWord_8 : decode cX1_reachedByWord 8 = .ok (.aload_n 0, 1) := by decide +kernel
theorem dX1_reachedByWord_9 : decode cX1_reachedByWord 9 = .ok (.getfield 44, 3) := by decide +kernel
theorem dX1_reachedByWord_12 : decode cX1_reachedByWord 12 = .ok (.getfield 56, 3) := by decide +kernel
theorem dX1_reachedByWord_15 : decode cX1_reachedByWord 15 = .ok (.if_icmp .ge 30, 3) := by decide +kernel
theorem dX1_reachedByWord_18 : decode cX1_reachedByWord 18 = .ok (.aload_n 0, 1) := by decide +kernel
theorem dX1_reachedByWord_19 : decode cX1_reachedByWord 19 = .ok (.iload_n 1, 1) := by decide +kernel
theorem dX1_reachedByWord_20 : decode cX1_reachedByWord 20 = .ok (.iload 5, 2) := by decide +kernel
theorem dX1_reachedByWord_22 : decode cX1_reachedByWord 22 = .ok (.iload_n 2, 1) := by decide +kernel
theorem dX1_reachedByWord_23 : decode cX1_reachedByWord 23 = .ok (.iload_n 3, 1) := by decide +kernel
theorem dX1_reachedByWord_24 : decode cX1_reachedByWord 24 = .ok (.invokevirtual 158, 3) := by decide +kernel
theorem dX1_reachedByWord_27 : decode cX1_reachedByWord 27 = .ok (.ifCond .eq 12, 3) := by decide +kernel
theorem dX1_reachedByWord_30 : decode cX1_reachedByWord 30 = .ok (.iload 4, 2) := by decide +kernel
theorem dX1_reachedByWord_32 : decode cX1_reachedByWord 32 = .ok (.iconst 1, 1) := by decide +kernel
theorem dX1_reachedByWord_33 : decode cX1_reachedByWord 33 = .ok (.iload 5, 2) := by decide +kernel
theorem dX1_reachedByWord_35 : decode cX1_reachedByWord 35 = .ok (.ishl, 1) := by decide +kernel
theorem dX1_reachedByWord_36 : decode cX1_reachedByWord 36 = .ok (.ior, 1) := by decide +kernel
theorem dX1_reachedByWord_37 : decode cX1_reachedByWord 37 = .ok (.istore 4, 2) := by decide +kernel
theorem dX1_reachedByWord_39 : decode cX1_reachedByWord 39 = .ok (.iinc 5 1, 3) := by decide +kernel
theorem dX1_reachedByWord_42 : decode cX1_reachedByWord 42 = .ok (.goto (-36), 3) := by decide +kernel
theorem dX1_reachedByWord_45 : decode cX1_reachedByWord 45 = .ok (.iload 4, 2) := by decide +kernel
theorem dX1_reachedByWord_47 : decode cX1_reachedByWord 47 = .ok (.ireturn, 1) := by decide +kernel
theorem dX1_reachedByAny_0 : decode cX1_reachedByAny 0 = .ok (.iconst 0, 1) := by decide +kernel
theorem dX1_reachedByAny_1 : decode cX1_reachedByAny 1 = .ok (.istore_n 2, 1) := by decide +kernel
theorem dX1_reachedByAny_2 : decode cX1_reachedByAny 2 = .ok (.iconst 0, 1) := by decide +kernel
theorem dX1_reachedByAny_3 : decode cX1_reachedByAny 3 = .ok (.istore_n 3, 1) := by decide +kernel
theorem dX1_reachedByAny_4 : decode cX1_reachedByAny 4 = .ok (.iload_n 3, 1) := by decide +kernel
theorem dX1_reachedByAny_5 : decode cX1_reachedByAny 5 = .ok (.aload_n 0, 1) := by decide +kernel
theorem dX1_reachedByAny_6 : decode cX1_reachedByAny 6 = .ok (.getfield 44, 3) := by decide +kernel
theorem dX1_reachedByAny_9 : decode cX1_reachedByAny 9 = .ok (.getfield 56, 3) := by decide +kernel
theorem dX1_reachedByAny_12 : decode cX1_reachedByAny 12 = .ok (.if_icmp .ge 96, 3) := by decide +kernel
theorem dX1_reachedByAny_15 : decode cX1_reachedByAny 15 = .ok (.iconst 0, 1) := by decide +kernel
theorem dX1_reachedByAny_16 : decode cX1_reachedByAny 16 = .ok (.istore 4, 2) := by decide +kernel
theorem dX1_reachedByAny_18 : decode cX1_reachedByAny 18 = .ok (.iload 4, 2) := by decide +kernel
theorem dX1_reachedByAny_20 : decode cX1_reachedByAny 20 = .ok (.aload_n 0, 1) := by decide +kernel
theorem dX1_reachedByAny_21 : decode cX1_reachedByAny 21 = .ok (.getfield 44, 3) := by decide +kernel
theorem dX1_reachedByAny_24 : decode cX1_reachedByAny 24 = .ok (.getfield 56, 3) := by decide +kernel
theorem dX1_reachedByAny_27 : decode cX1_reachedByAny 27 = .ok (.if_icmp .ge 75, 3) := by decide +kernel
theorem dX1_reachedByAny_30 : decode cX1_reachedByAny 30 = .ok (.aload_n 0, 1) := by decide +kernel
theorem dX1_reachedByAny_31 : decode cX1_reachedByAny 31 = .ok (.getfield 19, 3) := by decide +kernel
theorem dX1_reachedByAny_34 : decode cX1_reachedByAny 34 = .ok (.iload_n 1, 1) := by decide +kernel
theorem dX1_reachedByAny_35 : decode cX1_reachedByAny 35 = .ok (.aaload, 1) := by decide +kernel
theorem dX1_reachedByAny_36 : decode cX1_reachedByAny 36 = .ok (.iload 4, 2) := by decide +kernel
theorem dX1_reachedByAny_38 : decode cX1_reachedByAny 38 = .ok (.iaload, 1) := by decide +kernel
theorem dX1_reachedByAny_39 : decode cX1_reachedByAny 39 = .ok (.iconst (-1), 1) := by decide +kernel
theorem dX1_reachedByAny_40 : decode cX1_reachedByAny 40 = .ok (.if_icmp .eq 56, 3) := by decide +kernel
theorem dX1_reachedByAny_43 : decode cX1_reachedByAny 43 = .ok (.aload_n 0, 1) := by decide +kernel
theorem dX1_reachedByAny_44 : decode cX1_reachedByAny 44 = .ok (.getfield 19, 3) := by decide +kernel
theorem dX1_reachedByAny_47 : decode cX1_reachedByAny 47 = .ok (.iload_n 1, 1) := by decide +kernel
theorem dX1_reachedByAny_48 : decode cX1_reachedByAny 48 = .ok (.aaload, 1) := by decide +kernel
theorem dX1_reachedByAny_49 : decode cX1_reachedByAny 49 = .ok (.iload 4, 2) := by decide +kernel
theorem dX1_reachedByAny_51 : decode cX1_reachedByAny 51 = .ok (.iaload, 1) := by decide +kernel
theorem dX1_reachedByAny_52 : decode cX1_reachedByAny 52 = .ok (.aload_n 0, 1) := by decide +kernel
theorem dX1_reachedByAny_53 : decode cX1_reachedByAny 53 = .ok (.getfield 19, 3) := by decide +kernel
theorem dX1_reachedByAny_56 : decode cX1_reachedByAny 56 = .ok (.iload_n 1, 1) := by decide +kernel
theorem dX1_reachedByAny_57 : decode cX1_reachedByAny 57 = .ok (.aaload, 1) := by decide +kernel
theorem dX1_reachedByAny_58 : decode cX1_reachedByAny 58 = .ok (.iload_n 3, 1) := by decide +kernel
theorem dX1_reachedByAny_59 : decode cX1_reachedByAny 59 = .ok (.iaload, 1) := by decide +kernel
theorem dX1_reachedByAny_60 : decode cX1_reachedByAny 60 = .ok (.if_icmp .ge 36, 3) := by decide +kernel
theorem dX1_reachedByAny_63 : decode cX1_reachedByAny 63 = .ok (.aload_n 0, 1) := by decide +kernel
theorem dX1_reachedByAny_64 : decode cX1_reachedByAny 64 = .ok (.iload_n 1, 1) := by decide +kernel
theorem dX1_reachedByAny_65 : decode cX1_reachedByAny 65 = .ok (.iload_n 3, 1) := by decide +kernel
theorem dX1_reachedByAny_66 : decode cX1_reachedByAny 66 = .ok (.aload_n 0, 1) := by decide +kernel
theorem dX1_reachedByAny_67 : decode cX1_reachedByAny 67 = .ok (.getfield 22, 3) := by decide +kernel
theorem dX1_reachedByAny_70 : decode cX1_reachedByAny 70 = .ok (.iload_n 1, 1) := by decide +kernel
theorem dX1_reachedByAny_71 : decode cX1_reachedByAny 71 = .ok (.aaload, 1) := by decide +kernel
theorem dX1_reachedByAny_72 : decode cX1_reachedByAny 72 = .ok (.iload 4, 2) := by decide +kernel
theorem dX1_reachedByAny_74 : decode cX1_reachedByAny 74 = .ok (.iaload, 1) := by decide +kernel
theorem dX1_reachedByAny_75 : decode cX1_reachedByAny 75 = .ok (.aload_n 0, 1) := by decide +kernel
theorem dX1_reachedByAny_76 : decode cX1_reachedByAny 76 = .ok (.getfield 19, 3) := by decide +kernel
theorem dX1_reachedByAny_79 : decode cX1_reachedByAny 79 = .ok (.iload_n 1, 1) := by decide +kernel
theorem dX1_reachedByAny_80 : decode cX1_reachedByAny 80 = .ok (.aaload, 1) := by decide +kernel
theorem dX1_reachedByAny_81 : decode cX1_reachedByAny 81 = .ok (.iload 4, 2) := by decide +kernel
theorem dX1_reachedByAny_83 : decode cX1_reachedByAny 83 = .ok (.iaload, 1) := by decide +kernel
theorem dX1_reachedByAny_84 : decode cX1_reachedByAny 84 = .ok (.invokevirtual 158, 3) := by decide +kernel
theorem dX1_reachedByAny_87 : decode cX1_reachedByAny 87 = .ok (.ifCond .eq 9, 3) := by decide +kernel
theorem dX1_reachedByAny_90 : decode cX1_reachedByAny 90 = .ok (.iload_n 2, 1) := by decide +kernel
theorem dX1_reachedByAny_91 : decode cX1_reachedByAny 91 = .ok (.iconst 1, 1) := by decide +kernel
theorem dX1_reachedByAny_92 : decode cX1_reachedByAny 92 = .ok (.iload_n 3, 1) := by decide +kernel
theorem dX1_reachedByAny_93 : decode cX1_reachedByAny 93 = .ok (.ishl, 1) := by decide +kernel
theorem dX1_reachedByAny_94 : decode cX1_reachedByAny 94 = .ok (.ior, 1) := by decide +kernel
theorem dX1_reachedByAny_95 : decode cX1_reachedByAny 95 = .ok (.istore_n 2, 1) := by decide +kernel
theorem dX1_reachedByAny_96 : decode cX1_reachedByAny 96 = .ok (.iinc 4 1, 3) := by decide +kernel
theorem dX1_reachedByAny_99 : decode cX1_reachedByAny 99 = .ok (.goto (-81), 3) := by decide +kernel
theorem dX1_reachedByAny_102 : decode cX1_reachedByAny 102 = .ok (.iinc 3 1, 3) := by decide +kernel
theorem dX1_reachedByAny_105 : decode cX1_reachedByAny 105 = .ok (.goto (-101), 3) := by decide +kernel
theorem dX1_reachedByAny_108 : decode cX1_reachedByAny 108 = .ok (.aload_n 0, 1) := by decide +kernel
theorem dX1_reachedByAny_109 : decode cX1_reachedByAny 109 = .ok (.getfield 48, 3) := by decide +kernel
theorem dX1_reachedByAny_112 : decode cX1_reachedByAny 112 = .ok (.getfield 162, 3) := by decide +kernel
theorem dX1_reachedByAny_115 : decode cX1_reachedByAny 115 = .ok (.astore_n 3, 1) := by decide +kernel
theorem dX1_reachedByAny_116 : decode cX1_reachedByAny 116 = .ok (.iconst 0, 1) := by decide +kernel
theorem dX1_reachedByAny_117 : decode cX1_reachedByAny 117 = .ok (.istore 4, 2) := by decide +kernel
theorem dX1_reachedByAny_119 : decode cX1_reachedByAny 119 = .ok (.iload 4, 2) := by decide +kernel
theorem dX1_reachedByAny_121 : decode cX1_reachedByAny 121 = .ok (.aload_n 3, 1) := by decide +kernel
theorem dX1_reachedByAny_122 : decode cX1_reachedByAny 122 = .ok (.getfield 144, 3) := by decide +kernel
theorem dX1_reachedByAny_125 : decode cX1_reachedByAny 125 = .ok (.if_icmp .ge 42, 3) := by decide +kernel
theorem dX1_reachedByAny_128 : decode cX1_reachedByAny 128 = .ok (.aload_n 3, 1) := by decide +kernel
theorem dX1_reachedByAny_129 : decode cX1_reachedByAny 129 = .ok (.getfield 149, 3) := by decide +kernel
theorem dX1_reachedByAny_132 : decode cX1_reachedByAny 132 = .ok (.iload 4, 2) := by decide +kernel
theorem dX1_reachedByAny_134 : decode cX1_reachedByAny 134 = .ok (.iaload, 1) := by decide +kernel
theorem dX1_reachedByAny_135 : decode cX1_reachedByAny 135 = .ok (.iload_n 1, 1) := by decide +kernel
theorem dX1_reachedByAny_136 : decode cX1_reachedByAny 136 = .ok (.if_icmp .ne 25, 3) := by decide +kernel
theorem dX1_reachedByAny_139 : decode cX1_reachedByAny 139 = .ok (.iload_n 2, 1) := by decide +kernel
theorem dX1_reachedByAny_140 : decode cX1_reachedByAny 140 = .ok (.aload_n 0, 1) := by decide +kernel
theorem dX1_reachedByAny_141 : decode cX1_reachedByAny 141 = .ok (.iload_n 1, 1) := by decide +kernel
theorem dX1_reachedByAny_142 : decode cX1_reachedByAny 142 = .ok (.aload_n 3, 1) := by decide +kernel
theorem dX1_reachedByAny_143 : decode cX1_reachedByAny 143 = .ok (.getfield 152, 3) := by decide +kernel
theorem dX1_reachedByAny_146 : decode cX1_reachedByAny 146 = .ok (.iload 4, 2) := by decide +kernel
theorem dX1_reachedByAny_148 : decode cX1_reachedByAny 148 = .ok (.iaload, 1) := by decide +kernel
theorem dX1_reachedByAny_149 : decode cX1_reachedByAny 149 = .ok (.aload_n 3, 1) := by decide +kernel
theorem dX1_reachedByAny_150 : decode cX1_reachedByAny 150 = .ok (.getfield 155, 3) := by decide +kernel
theorem dX1_reachedByAny_153 : decode cX1_reachedByAny 153 = .ok (.iload 4, 2) := by decide +kernel
theorem dX1_reachedByAny_155 : decode cX1_reachedByAny 155 = .ok (.iaload, 1) := by decide +kernel
theorem dX1_reachedByAny_156 : decode cX1_reachedByAny 156 = .ok (.invokevirtual 165, 3) := by decide +kernel
theorem dX1_reachedByAny_159 : decode cX1_reachedByAny 159 = .ok (.ior, 1) := by decide +kernel
theorem dX1_reachedByAny_160 : decode cX1_reachedByAny 160 = .ok (.istore_n 2, 1) := by decide +kernel
theorem dX1_reachedByAny_161 : decode cX1_reachedByAny 161 = .ok (.iinc 4 1, 3) := by decide +kernel
theorem dX1_reachedByAny_164 : decode cX1_reachedByAny 164 = .ok (.goto (-45), 3) := by decide +kernel
theorem dX1_reachedByAny_167 : decode cX1_reachedByAny 167 = .ok (.iload_n 2, 1) := by decide +kernel
theorem dX1_reachedByAny_168 : decode cX1_reachedByAny 168 = .ok (.ireturn, 1) := by decide +kernel
theorem dX1_hearAll_0 : decode cX1_hearAll 0 = .ok (.iconst 0, 1) := by decide +kernel
theorem dX1_hearAll_1 : decode cX1_hearAll 1 = .ok (.istore_n 1, 1) := by decide +kernel
theorem dX1_hearAll_2 : decode cX1_hearAll 2 = .ok (.iload_n 1, 1) := by decide +kernel
theorem dX1_hearAll_3 : decode cX1_hearAll 3 = .ok (.aload_n 0, 1) := by decide +kernel
theorem dX1_hearAll_4 : decode cX1_hearAll 4 = .ok (.getfield 44, 3) := by decide +kernel
theorem dX1_hearAll_7 : decode cX1_hearAll 7 = .ok (.getfield 95, 3) := by decide +kernel
theorem dX1_hearAll_10 : decode cX1_hearAll 10 = .ok (.if_icmp .ge 39, 3) := by decide +kernel
theorem dX1_hearAll_13 : decode cX1_hearAll 13 = .ok (.aload_n 0, 1) := by decide +kernel
theorem dX1_hearAll_14 : decode cX1_hearAll 14 = .ok (.getfield 19, 3) := by decide +kernel
theorem dX1_hearAll_17 : decode cX1_hearAll 17 = .ok (.iload_n 1, 1) := by decide +kernel
theorem dX1_hearAll_18 : decode cX1_hearAll 18 = .ok (.aaload, 1) := by decide +kernel
theorem dX1_hearAll_19 : decode cX1_hearAll 19 = .ok (.iconst (-1), 1) := by decide +kernel
theorem dX1_hearAll_20 : decode cX1_hearAll 20 = .ok (.invokestatic 98, 3) := by decide +kernel
theorem dX1_hearAll_23 : decode cX1_hearAll 23 = .ok (.aload_n 0, 1) := by decide +kernel
theorem dX1_hearAll_24 : decode cX1_hearAll 24 = .ok (.getfield 22, 3) := by decide +kernel
theorem dX1_hearAll_27 : decode cX1_hearAll 27 = .ok (.iload_n 1, 1) := by decide +kernel
theorem dX1_hearAll_28 : decode cX1_hearAll 28 = .ok (.aaload, 1) := by decide +kernel
theorem dX1_hearAll_29 : decode cX1_hearAll 29 = .ok (.iconst (-1), 1) := by decide +kernel
theorem dX1_hearAll_30 : decode cX1_hearAll 30 = .ok (.invokestatic 98, 3) := by decide +kernel
theorem dX1_hearAll_33 : decode cX1_hearAll 33 = .ok (.aload_n 0, 1) := by decide +kernel
theorem dX1_hearAll_34 : decode cX1_hearAll 34 = .ok (.getfield 25, 3) := by decide +kernel
theorem dX1_hearAll_37 : decode cX1_hearAll 37 = .ok (.iload_n 1, 1) := by decide +kernel
theorem dX1_hearAll_38 : decode cX1_hearAll 38 = .ok (.aaload, 1) := by decide +kernel
theorem dX1_hearAll_39 : decode cX1_hearAll 39 = .ok (.iconst (-1), 1) := by decide +kernel
theorem dX1_hearAll_40 : decode cX1_hearAll 40 = .ok (.invokestatic 98, 3) := by decide +kernel
theorem dX1_hearAll_43 : decode cX1_hearAll 43 = .ok (.iinc 1 1, 3) := by decide +kernel
theorem dX1_hearAll_46 : decode cX1_hearAll 46 = .ok (.goto (-44), 3) := by decide +kernel
theorem dX1_hearAll_49 : decode cX1_hearAll 49 = .ok (.aload_n 0, 1) := by decide +kernel
theorem dX1_hearAll_50 : decode cX1_hearAll 50 = .ok (.getfield 38, 3) := by decide +kernel
theorem dX1_hearAll_53 : decode cX1_hearAll 53 = .ok (.iconst 0, 1) := by decide +kernel
theorem dX1_hearAll_54 : decode cX1_hearAll 54 = .ok (.invokestatic 98, 3) := by decide +kernel
theorem dX1_hearAll_57 : decode cX1_hearAll 57 = .ok (.iconst 0, 1) := by decide +kernel
theorem dX1_hearAll_58 : decode cX1_hearAll 58 = .ok (.istore_n 1, 1) := by decide +kernel
theorem dX1_hearAll_59 : decode cX1_hearAll 59 = .ok (.iload_n 1, 1) := by decide +kernel
theorem dX1_hearAll_60 : decode cX1_hearAll 60 = .ok (.bipush 35, 2) := by decide +kernel
theorem dX1_hearAll_62 : decode cX1_hearAll 62 = .ok (.if_icmp .ge 57, 3) := by decide +kernel
theorem dX1_hearAll_65 : decode cX1_hearAll 65 = .ok (.aload_n 0, 1) := by decide +kernel
theorem dX1_hearAll_66 : decode cX1_hearAll 66 = .ok (.invokevirtual 104, 3) := by decide +kernel
theorem dX1_hearAll_69 : decode cX1_hearAll 69 = .ok (.istore_n 2, 1) := by decide +kernel
theorem dX1_hearAll_70 : decode cX1_hearAll 70 = .ok (.iload_n 2, 1) := by decide +kernel
theorem dX1_hearAll_71 : decode cX1_hearAll 71 = .ok (.iconst (-1), 1) := by decide +kernel
theorem dX1_hearAll_72 : decode cX1_hearAll 72 = .ok (.if_icmp .eq 41, 3) := by decide +kernel
theorem dX1_hearAll_75 : decode cX1_hearAll 75 = .ok (.aload_n 0, 1) := by decide +kernel
theorem dX1_hearAll_76 : decode cX1_hearAll 76 = .ok (.getfield 38, 3) := by decide +kernel
theorem dX1_hearAll_79 : decode cX1_hearAll 79 = .ok (.iload_n 2, 1) := by decide +kernel
theorem dX1_hearAll_80 : decode cX1_hearAll 80 = .ok (.iaload, 1) := by decide +kernel
theorem dX1_hearAll_81 : decode cX1_hearAll 81 = .ok (.istore_n 3, 1) := by decide +kernel
theorem dX1_hearAll_82 : decode cX1_hearAll 82 = .ok (.aload_n 0, 1) := by decide +kernel
theorem dX1_hearAll_83 : decode cX1_hearAll 83 = .ok (.getfield 38, 3) := by decide +kernel
theorem dX1_hearAll_86 : decode cX1_hearAll 86 = .ok (.iload_n 2, 1) := by decide +kernel
theorem dX1_hearAll_87 : decode cX1_hearAll 87 = .ok (.dup2, 1) := by decide +kernel
theorem dX1_hearAll_88 : decode cX1_hearAll 88 = .ok (.iaload, 1) := by decide +kernel
theorem dX1_hearAll_89 : decode cX1_hearAll 89 = .ok (.iconst 1, 1) := by decide +kernel
theorem dX1_hearAll_90 : decode cX1_hearAll 90 = .ok (.iadd, 1) := by decide +kernel
theorem dX1_hearAll_91 : decode cX1_hearAll 91 = .ok (.iastore, 1) := by decide +kernel
theorem dX1_hearAll_92 : decode cX1_hearAll 92 = .ok (.aload_n 0, 1) := by decide +kernel
theorem dX1_hearAll_93 : decode cX1_hearAll 93 = .ok (.aload_n 0, 1) := by decide +kernel
theorem dX1_hearAll_94 : decode cX1_hearAll 94 = .ok (.getfield 11, 3) := by decide +kernel
theorem dX1_hearAll_97 : decode cX1_hearAll 97 = .ok (.iload_n 2, 1) := by decide +kernel
theorem dX1_hearAll_98 : decode cX1_hearAll 98 = .ok (.aaload, 1) := by decide +kernel
theorem dX1_hearAll_99 : decode cX1_hearAll 99 = .ok (.iload_n 3, 1) := by decide +kernel
theorem dX1_hearAll_100 : decode cX1_hearAll 100 = .ok (.iaload, 1) := by decide +kernel
theorem dX1_hearAll_101 : decode cX1_hearAll 101 = .ok (.iload_n 2, 1) := by decide +kernel
theorem dX1_hearAll_102 : decode cX1_hearAll 102 = .ok (.aload_n 0, 1) := by decide +kernel
theorem dX1_hearAll_103 : decode cX1_hearAll 103 = .ok (.getfield 16, 3) := by decide +kernel
theorem dX1_hearAll_106 : decode cX1_hearAll 106 = .ok (.iload_n 2, 1) := by decide +kernel
theorem dX1_hearAll_107 : decode cX1_hearAll 107 = .ok (.aaload, 1) := by decide +kernel
theorem dX1_hearAll_108 : decode cX1_hearAll 108 = .ok (.iload_n 3, 1) := by decide +kernel
theorem dX1_hearAll_109 : decode cX1_hearAll 109 = .ok (.iaload, 1) := by decide +kernel
theorem dX1_hearAll_110 : decode cX1_hearAll 110 = .ok (.invokevirtual 108, 3) := by decide +kernel
theorem dX1_hearAll_113 : decode cX1_hearAll 113 = .ok (.iinc 1 1, 3) := by decide +kernel
theorem dX1_hearAll_116 : decode cX1_hearAll 116 = .ok (.goto (-57), 3) := by decide +kernel
theorem dX1_hearAll_119 : decode cX1_hearAll 119 = .ok (.iconst 0, 1) := by decide +kernel
theorem dX1_hearAll_120 : decode cX1_hearAll 120 = .ok (.istore_n 1, 1) := by decide +kernel
theorem dX1_hearAll_121 : decode cX1_hearAll 121 = .ok (.iload_n 1, 1) := by decide +kernel
theorem dX1_hearAll_122 : decode cX1_hearAll 122 = .ok (.aload_n 0, 1) := by decide +kernel
theorem dX1_hearAll_123 : decode cX1_hearAll 123 = .ok (.getfield 44, 3) := by decide +kernel
theorem dX1_hearAll_126 : decode cX1_hearAll 126 = .ok (.getfield 95, 3) := by decide +kernel
theorem dX1_hearAll_129 : decode cX1_hearAll 129 = .ok (.if_icmp .ge 20, 3) := by decide +kernel
theorem dX1_hearAll_132 : decode cX1_hearAll 132 = .ok (.aload_n 0, 1) := by decide +kernel
theorem dX1_hearAll_133 : decode cX1_hearAll 133 = .ok (.getfield 28, 3) := by decide +kernel
theorem dX1_hearAll_136 : decode cX1_hearAll 136 = .ok (.iload_n 1, 1) := by decide +kernel
theorem dX1_hearAll_137 : decode cX1_hearAll 137 = .ok (.aload_n 0, 1) := by decide +kernel
theorem dX1_hearAll_138 : decode cX1_hearAll 138 = .ok (.iload_n 1, 1) := by decide +kernel
theorem dX1_hearAll_139 : decode cX1_hearAll 139 = .ok (.invokevirtual 112, 3) := by decide +kernel
theorem dX1_hearAll_142 : decode cX1_hearAll 142 = .ok (.iastore, 1) := by decide +kernel
theorem dX1_hearAll_143 : decode cX1_hearAll 143 = .ok (.iinc 1 1, 3) := by decide +kernel
theorem dX1_hearAll_146 : decode cX1_hearAll 146 = .ok (.goto (-25), 3) := by decide +kernel
theorem dX1_hearAll_149 : decode cX1_hearAll 149 = .ok (.return_, 1) := by decide +kernel
theorem dX1_townOn_0 : decode cX1_townOn 0 = .ok (.iconst 0, 1) := by decide +kernel
theorem dX1_townOn_1 : decode cX1_townOn 1 = .ok (.istore_n 3, 1) := by decide +kernel
theorem dX1_townOn_2 : decode cX1_townOn 2 = .ok (.iload_n 3, 1) := by decide +kernel
theorem dX1_townOn_3 : decode cX1_townOn 3 = .ok (.aload_n 0, 1) := by decide +kernel
theorem dX1_townOn_4 : decode cX1_townOn 4 = .ok (.getfield 44, 3) := by decide +kernel
theorem dX1_townOn_7 : decode cX1_townOn 7 = .ok (.getfield 73, 3) := by decide +kernel
theorem dX1_townOn_10 : decode cX1_townOn 10 = .ok (.iload_n 1, 1) := by decide +kernel
theorem dX1_townOn_11 : decode cX1_townOn 11 = .ok (.iaload, 1) := by decide +kernel
theorem dX1_townOn_12 : decode cX1_townOn 12 = .ok (.if_icmp .ge 30, 3) := by decide +kernel
theorem dX1_townOn_15 : decode cX1_townOn 15 = .ok (.aload_n 0, 1) := by decide +kernel
theorem dX1_townOn_16 : decode cX1_townOn 16 = .ok (.getfield 16, 3) := by decide +kernel
theorem dX1_townOn_19 : decode cX1_townOn 19 = .ok (.iload_n 1, 1) := by decide +kernel
theorem dX1_townOn_20 : decode cX1_townOn 20 = .ok (.aaload, 1) := by decide +kernel
theorem dX1_townOn_21 : decode cX1_townOn 21 = .ok (.iload_n 3, 1) := by decide +kernel
theorem dX1_townOn_22 : decode cX1_townOn 22 = .ok (.iaload, 1) := by decide +kernel
theorem dX1_townOn_23 : decode cX1_townOn 23 = .ok (.iload_n 2, 1) := by decide +kernel
theorem dX1_townOn_24 : decode cX1_townOn 24 = .ok (.if_icmp .ne 12, 3) := by decide +kernel
theorem dX1_townOn_27 : decode cX1_townOn 27 = .ok (.aload_n 0, 1) := by decide +kernel
theorem dX1_townOn_28 : decode cX1_townOn 28 = .ok (.getfield 11, 3) := by decide +kernel
theorem dX1_townOn_31 : decode cX1_townOn 31 = .ok (.iload_n 1, 1) := by decide +kernel
theorem dX1_townOn_32 : decode cX1_townOn 32 = .ok (.aaload, 1) := by decide +kernel
theorem dX1_townOn_33 : decode cX1_townOn 33 = .ok (.iload_n 3, 1) := by decide +kernel
theorem dX1_townOn_34 : decode cX1_townOn 34 = .ok (.iaload, 1) := by decide +kernel
theorem dX1_townOn_35 : decode cX1_townOn 35 = .ok (.ireturn, 1) := by decide +kernel
theorem dX1_townOn_36 : decode cX1_townOn 36 = .ok (.iinc 3 1, 3) := by decide +kernel
theorem dX1_townOn_39 : decode cX1_townOn 39 = .ok (.goto (-37), 3) := by decide +kernel
theorem dX1_townOn_42 : decode cX1_townOn 42 = .ok (.iconst (-1), 1) := by decide +kernel
theorem dX1_townOn_43 : decode cX1_townOn 43 = .ok (.ireturn, 1) := by decide +kernel
def f_X4_gives_61  (z0 : Nat) : Nat → Mem → Int32 → Int32 → Option (Int32 × Mem)
  | 0, _, _, _ => none
  | fu + 1, I, v6, v7 =>
    if (I 4 z0 0 1) ≤ v7 then (some ((I 42 z0 0 0), I)) else (gd (inb v7 600) <|
    bnd (I 41 z0 0 v7.toNatClampNeg) fun x1 =>
    if (10004 : Int32) < x1 then (if x1 = (10007 : Int32) then (if v6 < (1 : Int32) then ((f_X4_gives_61 z0 fu) I v6 (v7 + (1 : Int32))) else (gd (inb (v6 - (1 : Int32)) 40) <|
    if (I 42 z0 0 ((v6 - (1 : Int32)).toNatClampNeg)) = 0 then (bnd (upd4 I 42 z0 0 ((v6 - (1 : Int32)).toNatClampNeg) (1 : Int32)) fun I3' =>
    (f_X4_gives_61 z0 fu) I3' v6 (v7 + (1 : Int32))) else (bnd (upd4 I 42 z0 0 ((v6 - (1 : Int32)).toNatClampNeg) (0 : Int32)) fun I2' =>
    (f_X4_gives_61 z0 fu) I2' v6 (v7 + (1 : Int32))))) else (if v6 < (2 : Int32) then ((f_X4_gives_61 z0 fu) I v6 (v7 + (1 : Int32))) else (gd (inb ((v6 + (-1 : Int32)) - (1 : Int32)) 40) <|
    gd (inb (v6 + (-1 : Int32)) 40) <|
    (f_X4_join I x1 (I 42 z0 0 (((v6 + (-1 : Int32)) - (1 : Int32)).toNatClampNeg)) (I 42 z0 0 ((v6 + (-1 : Int32)).toNatClampNeg))).bind fun y1 =>
    bnd (upd4 I 42 z0 0 (((v6 + (-1 : Int32)) - (1 : Int32)).toNatClampNeg) y1) fun I1' =>
    (f_X4_gives_61 z0 fu) I1' (v6 + (-1 : Int32)) (v7 + (1 : Int32))))) else (if (40 : Int32) ≤ v6 then ((f_X4_gives_61 z0 fu) I v6 (v7 + (1 : Int32))) else (if (9999 : Int32) < x1 then (gd (inb (x1 - (10000 : Int32)) 5) <|
    gd (inb v6 40) <|
    bnd (upd4 I 42 z0 0 v6.toNatClampNeg (I 43 z0 0 ((x1 - (10000 : Int32)).toNatClampNeg))) fun I4' =>
    (f_X4_gives_61 z0 fu) I4' (v6 + (1 : Int32)) (v7 + (1 : Int32))) else (gd (inb v6 40) <|
    bnd (upd4 I 42 z0 0 v6.toNatClampNeg x1) fun I5' =>
    (f_X4_gives_61 z0 fu) I5' (v6 + (1 : Int32)) (v7 + (1 : Int32))))))
theorem b_X4_gives_61 (X : CX) (Q : State → Prop) {P : PMem} {O : Nat → Int64} {D : Bool} {n : Nat} {z0 : Nat} {r : (Int32 × Mem)}  (hz0 : z0 < 2) : ∀ (fu : Nat) {I : Mem} {v6 : Int32} {v7 : Int32}, f_X4_gives_61 z0 fu I v6 v7 = some r → EndR X cX4_gives RX4 9 (some .int) 3 n (some (.inl r.1)) r.2 P O D Q → Here X cX4_gives RX4 9 (some .int) 3 n 61 [some (.inr (.inr (4, z0, 0))), none, none, none, none, none, some (.inl v6), some (.inl v7), none] [] I P O D n Q := by
  intro fu
  induction fu with
  | zero => intro I v6 v7 h E; cases h
  | succ fu ih =>
  intro I v6 v7 h E
  have H61 : ∀ (I : Mem) (v6 : Int32) (v7 : Int32), f_X4_gives_61 z0 fu I v6 v7 = some r → Here X cX4_gives RX4 9 (some .int) 3 n 61 [some (.inr (.inr (4, z0, 0))), none, none, none, none, none, some (.inl v6), some (.inl v7), none] [] I P O D n Q := fun _ _ _ b => ih b E
  simp only [f_X4_gives_61] at h
  refine h_iload dX4_gives_61 rfl ?_
  refine h_aload_n dX4_gives_63 rfl ?_
  refine g_X4_21 (by omega) dX4_gives_64 ?_
  refine h_icmp_ge (tgt := 222) dX4_gives_67 (by decide) (fun q1 => ?_) (fun q1 => ?_)
  · rw [if_pos q1] at h
    refine h_aload_n dX4_gives_222 rfl ?_
    refine g_X4_15 (by omega) dX4_gives_223 ?_
    refine h_iconst (0 : Int32) dX4_gives_226 k_iconst_0 ?_
    refine al_42 (by omega) 0 cl_0 dX4_gives_227 rfl ?_
    cases h
    exact h_iret dX4_gives_228 rfl E
  · rw [if_neg q1] at h
    refine h_aload_n dX4_gives_70 rfl ?_
    refine g_X4_9 (by omega) dX4_gives_71 ?_
    refine h_iload dX4_gives_74 rfl ?_
    obtain ⟨g1, h⟩ := gd_some h
    refine al_41 (by omega) v7.toNatClampNeg rfl dX4_gives_76 g1 ?_
    obtain ⟨x1, e1, h⟩ := bnd_some h
    refine h_nmv e1 ?_
    refine h_istore dX4_gives_77 (by decide) rfl ?_
    refine h_iload dX4_gives_79 rfl ?_
    refine h_sipush (10004 : Int32) dX4_gives_81 k_sipush_10004 ?_
    refine h_icmp_gt (tgt := 134) dX4_gives_84 (by decide) (fun q2 => ?_) (fun q2 => ?_)
    · rw [if_pos q2] at h
      refine h_iload dX4_gives_134 rfl ?_
      refine h_sipush (10007 : Int32) dX4_gives_136 k_sipush_10007 ?_
      refine h_icmp_ne (tgt := 177) dX4_gives_139 (by decide) (fun q3 => ?_) (fun q3 => ?_)
      · rw [if_neg q3] at h
        refine h_iload dX4_gives_177 rfl ?_
        refine h_iconst (2 : Int32) dX4_gives_179 k_iconst_2 ?_
        refine h_icmp_lt (tgt := 216) dX4_gives_180 (by decide) (fun q4 => ?_) (fun q4 => ?_)
        · rw [if_pos q4] at h
          refine h_iinc (1 : Int32) dX4_gives_216 rfl k_iinc_1 (by decide) rfl ?_
          refine h_goto (tgt := 61) dX4_gives_219 (by decide) ?_
          exact h_mask [true, false, false, false, false, false, true, true, false] (H61 _ _ _ h)
        · rw [if_neg q4] at h
          refine h_iinc (-1 : Int32) dX4_gives_183 rfl k_iinc_m1 (by decide) rfl ?_
          refine h_aload_n dX4_gives_186 rfl ?_
          refine g_X4_15 (by omega) dX4_gives_187 ?_
          refine h_iload dX4_gives_190 rfl ?_
          refine h_iconst (1 : Int32) dX4_gives_192 k_iconst_1 ?_
          refine h_isub dX4_gives_193 ?_
          refine h_iload dX4_gives_194 rfl ?_
          refine h_aload_n dX4_gives_196 rfl ?_
          refine g_X4_15 (by omega) dX4_gives_197 ?_
          refine h_iload dX4_gives_200 rfl ?_
          refine h_iconst (1 : Int32) dX4_gives_202 k_iconst_1 ?_
          refine h_isub dX4_gives_203 ?_
          obtain ⟨g2, h⟩ := gd_some h
          refine al_42 (by omega) (((v6 + (-1 : Int32)) - (1 : Int32)).toNatClampNeg) rfl dX4_gives_204 g2 ?_
          refine h_aload_n dX4_gives_205 rfl ?_
          refine g_X4_15 (by omega) dX4_gives_206 ?_
          refine h_iload dX4_gives_209 rfl ?_
          obtain ⟨g3, h⟩ := gd_some h
          refine al_42 (by omega) ((v6 + (-1 : Int32)).toNatClampNeg) rfl dX4_gives_211 g3 ?_
          obtain ⟨y1, hh1, h⟩ := obd_some h
          refine h_cSi [.inl x1, .inl (I 42 z0 0 (((v6 + (-1 : Int32)) - (1 : Int32)).toNatClampNeg)), .inl (I 42 z0 0 ((v6 + (-1 : Int32)).toNatClampNeg))] (m_X4_join  hh1) cs_X4_25 dX4_gives_212 rfl (by decide) rfl (Or.inr rfl) rfl ?_
          obtain ⟨I1', e2, h⟩ := bnd_some h
          refine as_42 (by omega) (((v6 + (-1 : Int32)) - (1 : Int32)).toNatClampNeg) rfl dX4_gives_215 g2 ?_
          refine h_nmI e2 ?_
          refine h_iinc (1 : Int32) dX4_gives_216 rfl k_iinc_1 (by decide) rfl ?_
          refine h_goto (tgt := 61) dX4_gives_219 (by decide) ?_
          exact h_mask [true, false, false, false, false, false, true, true, false] (H61 _ _ _ h)
      · rw [if_pos q3] at h
        refine h_iload dX4_gives_142 rfl ?_
        refine h_iconst (1 : Int32) dX4_gives_144 k_iconst_1 ?_
        refine h_icmp_lt (tgt := 216) dX4_gives_145 (by decide) (fun q5 => ?_) (fun q5 => ?_)
        · rw [if_pos q5] at h
          refine h_iinc (1 : Int32) dX4_gives_216 rfl k_iinc_1 (by decide) rfl ?_
          refine h_goto (tgt := 61) dX4_gives_219 (by decide) ?_
          exact h_mask [true, false, false, false, false, false, true, true, false] (H61 _ _ _ h)
        · rw [if_neg q5] at h
          refine h_aload_n dX4_gives_148 rfl ?_
          refine g_X4_15 (by omega) dX4_gives_149 ?_
          refine h_iload dX4_gives_152 rfl ?_
          refine h_iconst (1 : Int32) dX4_gives_154 k_iconst_1 ?_
          refine h_isub dX4_gives_155 ?_
          refine h_aload_n dX4_gives_156 rfl ?_
          refine g_X4_15 (by omega) dX4_gives_157 ?_
          refine h_iload dX4_gives_160 rfl ?_
          refine h_iconst (1 : Int32) dX4_gives_162 k_iconst_1 ?_
          refine h_isub dX4_gives_163 ?_
          obtain ⟨g4, h⟩ := gd_some h
          refine al_42 (by omega) ((v6 - (1 : Int32)).toNatClampNeg) rfl dX4_gives_164 g4 ?_
          refine h_if_ne (tgt := 172) dX4_gives_165 (by decide) (fun q6 => ?_) (fun q6 => ?_)
          · rw [if_neg q6] at h
            refine h_iconst (0 : Int32) dX4_gives_172 k_iconst_0 ?_
            obtain ⟨I2', e3, h⟩ := bnd_some h
            refine as_42 (by omega) ((v6 - (1 : Int32)).toNatClampNeg) rfl dX4_gives_173 g4 ?_
            refine h_nmI e3 ?_
            refine h_goto (tgt := 216) dX4_gives_174 (by decide) ?_
            refine h_iinc (1 : Int32) dX4_gives_216 rfl k_iinc_1 (by decide) rfl ?_
            refine h_goto (tgt := 61) dX4_gives_219 (by decide) ?_
            exact h_mask [true, false, false, false, false, false, true, true, false] (H61 _ _ _ h)
          · rw [if_pos q6] at h
            refine h_iconst (1 : Int32) dX4_gives_168 k_iconst_1 ?_
            refine h_goto (tgt := 173) dX4_gives_169 (by decide) ?_
            obtain ⟨I3', e4, h⟩ := bnd_some h
            refine as_42 (by omega) ((v6 - (1 : Int32)).toNatClampNeg) rfl dX4_gives_173 g4 ?_
            refine h_nmI e4 ?_
            refine h_goto (tgt := 216) dX4_gives_174 (by decide) ?_
            refine h_iinc (1 : Int32) dX4_gives_216 rfl k_iinc_1 (by decide) rfl ?_
            refine h_goto (tgt := 61) dX4_gives_219 (by decide) ?_
            exact h_mask [true, false, false, false, false, false, true, true, false] (H61 _ _ _ h)
    · rw [if_neg q2] at h
      refine h_iload dX4_gives_87 rfl ?_
      refine h_aload_n dX4_gives_89 rfl ?_
      refine g_X4_15 (by omega) dX4_gives_90 ?_
      refine h_aleni (40 : Int32) rfl dX4_gives_93 (ok_42 (by omega)) rfl ?_
      refine h_icmp_ge (tgt := 216) dX4_gives_94 (by decide) (fun q7 => ?_) (fun q7 => ?_)
      · rw [if_pos q7] at h
        refine h_iinc (1 : Int32) dX4_gives_216 rfl k_iinc_1 (by decide) rfl ?_
        refine h_goto (tgt := 61) dX4_gives_219 (by decide) ?_
        exact h_mask [true, false, false, false, false, false, true, true, false] (H61 _ _ _ h)
      · rw [if_neg q7] at h
        refine h_aload_n dX4_gives_97 rfl ?_
        refine g_X4_15 (by omega) dX4_gives_98 ?_
        refine h_iload dX4_gives_101 rfl ?_
        refine h_iload dX4_gives_103 rfl ?_
        refine h_sipush (9999 : Int32) dX4_gives_105 k_sipush_9999 ?_
        refine h_icmp_gt (tgt := 116) dX4_gives_108 (by decide) (fun q8 => ?_) (fun q8 => ?_)
        · rw [if_pos q8] at h
          refine h_aload_n dX4_gives_116 rfl ?_
          refine g_X4_18 (by omega) dX4_gives_117 ?_
          refine h_iload dX4_gives_120 rfl ?_
          refine h_sipush (10000 : Int32) dX4_gives_122 k_sipush_10000 ?_
          refine h_isub dX4_gives_125 ?_
          obtain ⟨g5, h⟩ := gd_some h
          refine al_43 (by omega) ((x1 - (10000 : Int32)).toNatClampNeg) rfl dX4_gives_126 g5 ?_
          obtain ⟨g6, h⟩ := gd_some h
          obtain ⟨I4', e5, h⟩ := bnd_some h
          refine as_42 (by omega) v6.toNatClampNeg rfl dX4_gives_127 g6 ?_
          refine h_nmI e5 ?_
          refine h_iinc (1 : Int32) dX4_gives_128 rfl k_iinc_1 (by decide) rfl ?_
          refine h_goto (tgt := 216) dX4_gives_131 (by decide) ?_
          refine h_iinc (1 : Int32) dX4_gives_216 rfl k_iinc_1 (by decide) rfl ?_
          refine h_goto (tgt := 61) dX4_gives_219 (by decide) ?_
          exact h_mask [true, false, false, false, false, false, true, true, false] (H61 _ _ _ h)
        · rw [if_neg q8] at h
          refine h_iload dX4_gives_111 rfl ?_
          refine h_goto (tgt := 127) dX4_gives_113 (by decide) ?_
          obtain ⟨g7, h⟩ := gd_some h
          obtain ⟨I5', e6, h⟩ := bnd_some h
          refine as_42 (by omega) v6.toNatClampNeg rfl dX4_gives_127 g7 ?_
          refine h_nmI e6 ?_
          refine h_iinc (1 : Int32) dX4_gives_128 rfl k_iinc_1 (by decide) rfl ?_
          refine h_goto (tgt := 216) dX4_gives_131 (by decide) ?_
          refine h_iinc (1 : Int32) dX4_gives_216 rfl k_iinc_1 (by decide) rfl ?_
          refine h_goto (tgt := 61) dX4_gives_219 (by decide) ?_
          exact h_mask [true, false, false, false, false, false, true, true, false] (H61 _ _ _ h)
def f_X4_gives  (z0 : Nat) (I : Mem) (v1 : Int32) (v2 : Int32) (v3 : Int32) (v4 : Int32) (v5 : Int32) : Option (Int32 × Mem) :=
  if (I 4 z0 0 1) = 0 then (if v1 ≤ (4 : Int32) then (some ((0 : Int32), I)) else (some ((1 : Int32), I))) else (bnd (upd4 I 43 z0 0 0 v1) fun I1' =>
  bnd (upd4 I1' 43 z0 0 1 v2) fun I2' =>
  bnd (upd4 I2' 43 z0 0 2 v3) fun I3' =>
  bnd (upd4 I3' 43 z0 0 3 v4) fun I4' =>
  bnd (upd4 I4' 43 z0 0 4 v5) fun I5' =>
  f_X4_gives_61 z0 FU I5' (0 : Int32) (0 : Int32))
theorem b_X4_gives (X : CX) (Q : State → Prop) {I : Mem} {P : PMem} {O : Nat → Int64} {D : Bool} {n : Nat} {z0 : Nat} {v1 : Int32} {v2 : Int32} {v3 : Int32} {v4 : Int32} {v5 : Int32} {r : (Int32 × Mem)}  (hz0 : z0 < 2) (h : f_X4_gives z0 I v1 v2 v3 v4 v5 = some r) (E : EndR X cX4_gives RX4 9 (some .int) 3 n (some (.inl r.1)) r.2 P O D Q) : Here X cX4_gives RX4 9 (some .int) 3 n 0 [some (.inr (.inr (4, z0, 0))), some (.inl v1), some (.inl v2), some (.inl v3), some (.inl v4), some (.inl v5), none, none, none] [] I P O D n Q := by
  unfold f_X4_gives at h
  refine h_aload_n dX4_gives_0 rfl ?_
  refine g_X4_21 (by omega) dX4_gives_1 ?_
  refine h_if_ne (tgt := 18) dX4_gives_4 (by decide) (fun q1 => ?_) (fun q1 => ?_)
  · rw [if_neg q1] at h
    refine h_aload_n dX4_gives_18 rfl ?_
    refine g_X4_18 (by omega) dX4_gives_19 ?_
    refine h_iconst (0 : Int32) dX4_gives_22 k_iconst_0 ?_
    refine h_iload_n dX4_gives_23 rfl ?_
    obtain ⟨I1', e1, h⟩ := bnd_some h
    refine as_43 (by omega) 0 cl_0 dX4_gives_24 rfl ?_
    refine h_nmI e1 ?_
    refine h_aload_n dX4_gives_25 rfl ?_
    refine g_X4_18 (by omega) dX4_gives_26 ?_
    refine h_iconst (1 : Int32) dX4_gives_29 k_iconst_1 ?_
    refine h_iload_n dX4_gives_30 rfl ?_
    obtain ⟨I2', e2, h⟩ := bnd_some h
    refine as_43 (by omega) 1 cl_1 dX4_gives_31 rfl ?_
    refine h_nmI e2 ?_
    refine h_aload_n dX4_gives_32 rfl ?_
    refine g_X4_18 (by omega) dX4_gives_33 ?_
    refine h_iconst (2 : Int32) dX4_gives_36 k_iconst_2 ?_
    refine h_iload_n dX4_gives_37 rfl ?_
    obtain ⟨I3', e3, h⟩ := bnd_some h
    refine as_43 (by omega) 2 cl_2 dX4_gives_38 rfl ?_
    refine h_nmI e3 ?_
    refine h_aload_n dX4_gives_39 rfl ?_
    refine g_X4_18 (by omega) dX4_gives_40 ?_
    refine h_iconst (3 : Int32) dX4_gives_43 k_iconst_3 ?_
    refine h_iload dX4_gives_44 rfl ?_
    obtain ⟨I4', e4, h⟩ := bnd_some h
    refine as_43 (by omega) 3 cl_3 dX4_gives_46 rfl ?_
    refine h_nmI e4 ?_
    refine h_aload_n dX4_gives_47 rfl ?_
    refine g_X4_18 (by omega) dX4_gives_48 ?_
    refine h_iconst (4 : Int32) dX4_gives_51 k_iconst_4 ?_
    refine h_iload dX4_gives_52 rfl ?_
    obtain ⟨I5', e5, h⟩ := bnd_some h
    refine as_43 (by omega) 4 cl_4 dX4_gives_54 rfl ?_
    refine h_nmI e5 ?_
    refine h_iconst (0 : Int32) dX4_gives_55 k_iconst_0 ?_
    refine h_istore dX4_gives_56 (by decide) rfl ?_
    refine h_iconst (0 : Int32) dX4_gives_58 k_iconst_0 ?_
    refine h_istore dX4_gives_59 (by decide) rfl ?_
    exact h_mask [true, false, false, false, false, false, true, true, false] (b_X4_gives_61 X Q hz0 FU  h E)
  · rw [if_pos q1] at h
    refine h_iload_n dX4_gives_7 rfl ?_
    refine h_iconst (4 : Int32) dX4_gives_8 k_iconst_4 ?_
    refine h_icmp_le (tgt := 16) dX4_gives_9 (by decide) (fun q2 => ?_) (fun q2 => ?_)
    · rw [if_pos q2] at h
      refine h_iconst (0 : Int32) dX4_gives_16 k_iconst_0 ?_
      cases h
      exact h_iret dX4_gives_17 rfl E
    · rw [if_neg q2] at h
      refine h_iconst (1 : Int32) dX4_gives_12 k_iconst_1 ?_
      refine h_goto (tgt := 17) dX4_gives_13 (by decide) ?_
      cases h
      exact h_iret dX4_gives_17 rfl E
theorem m_X4_gives {I : Mem} {P : PMem} {O : Nat → Int64} {D : Bool} {n : Nat} {z0 : Nat} {v1 : Int32} {v2 : Int32} {v3 : Int32} {v4 : Int32} {v5 : Int32} {r : (Int32 × Mem)} (hz0 : z0 < 2) (h : f_X4_gives z0 I v1 v2 v3 v4 v5 = some r) : MethR yX4_gives cX4_gives 9 (some .int) 3 [.inr (.inr (4, z0, 0)), .inl v1, .inl v2, .inl v3, .inl v4, .inl v5] I P O D n (some (.inl r.1)) r.2 P O D n := meth_R (Nat.le_refl _) (by decide) rfl (Nat.le_of_ble_eq_true rfl) rfl (fun X Q E => b_X4_gives X Q hz0 h E)
def f_X1_hearIn_142 (k13 : Mem → Int32 → Int32 → Int32 → Int32 → Option (Mem)) (P : PMem) (z0 : Nat) (I : Mem) (v1 : Int32) (v2 : Int32) (v3 : Int32) (v4 : Int32) (s0 : Int32) (s1 : Int32) (sz2 : Nat) (sr2 : Nat) : Option (Mem) :=
  gd (inb s1 5) <|
  bnd (upd4 I 20 sz2 sr2 s1.toNatClampNeg s0) fun I1' =>
  gd (inb v4 6) <|
  gd (inb v2 5) <|
  bnd (upd4 I1' 16 z0 v4.toNatClampNeg v2.toNatClampNeg v3) fun I2' =>
  bnd (upd4 I2' 18 z0 v4.toNatClampNeg v2.toNatClampNeg v1) fun I3' =>
  k13 I3' v1 v2 v3 (v4 + (1 : Int32))
theorem b_X1_hearIn_142 (X : CX) (Q : State → Prop) {I : Mem} {P : PMem} {O : Nat → Int64} {D : Bool} {n : Nat} {k13 : Mem → Int32 → Int32 → Int32 → Int32 → Option (Mem)} {z0 : Nat} {v1 : Int32} {v2 : Int32} {v3 : Int32} {v4 : Int32} {s0 : Int32} {s1 : Int32} {sz2 : Nat} {sr2 : Nat} {r : (Mem)}  (H13 : ∀ (I : Mem) (v1 : Int32) (v2 : Int32) (v3 : Int32) (v4 : Int32), k13 I v1 v2 v3 v4 = some r → Here X cX1_hearIn RX1 9 (none) 4 n 13 [some (.inr (.inr (1, z0, 0))), some (.inl v1), some (.inl v2), some (.inl v3), some (.inl v4), none, none, none, none] [] I P O D n Q) (hz0 : z0 < 2) (hsz2 : sz2 < 2) (hsr2 : sr2 < 6) (h : f_X1_hearIn_142 k13 P z0 I v1 v2 v3 v4 s0 s1 sz2 sr2 = some r) (E : EndR X cX1_hearIn RX1 9 (none) 4 n none r P O D Q) : Here X cX1_hearIn RX1 9 (none) 4 n 142 [some (.inr (.inr (1, z0, 0))), some (.inl v1), some (.inl v2), some (.inl v3), some (.inl v4), none, none, none, none] [.inl s0, .inl s1, .inr (.inr (20, sz2, sr2))] I P O D n Q := by
  unfold f_X1_hearIn_142 at h
  obtain ⟨g1, h⟩ := gd_some h
  obtain ⟨I1', e1, h⟩ := bnd_some h
  refine as_20 (by omega) (by omega) s1.toNatClampNeg rfl dX1_hearIn_142 g1 ?_
  refine h_nmI e1 ?_
  refine h_aload_n dX1_hearIn_143 rfl ?_
  refine g_X1_19 (by omega) dX1_hearIn_144 ?_
  refine h_iload dX1_hearIn_147 rfl ?_
  obtain ⟨g2, h⟩ := gd_some h
  refine ag_15 (by omega) v4.toNatClampNeg rfl dX1_hearIn_149 g2 ?_
  have w1 := inb_lt g2
  refine h_iload_n dX1_hearIn_150 rfl ?_
  refine h_iload_n dX1_hearIn_151 rfl ?_
  obtain ⟨g3, h⟩ := gd_some h
  obtain ⟨I2', e2, h⟩ := bnd_some h
  refine as_16 (by omega) (by omega) v2.toNatClampNeg rfl dX1_hearIn_152 g3 ?_
  refine h_nmI e2 ?_
  refine h_aload_n dX1_hearIn_153 rfl ?_
  refine g_X1_22 (by omega) dX1_hearIn_154 ?_
  refine h_iload dX1_hearIn_157 rfl ?_
  refine ag_17 (by omega) v4.toNatClampNeg rfl dX1_hearIn_159 g2 ?_
  refine h_iload_n dX1_hearIn_160 rfl ?_
  refine h_iload_n dX1_hearIn_161 rfl ?_
  obtain ⟨I3', e3, h⟩ := bnd_some h
  refine as_18 (by omega) (by omega) v2.toNatClampNeg rfl dX1_hearIn_162 g3 ?_
  refine h_nmI e3 ?_
  refine h_iinc (1 : Int32) dX1_hearIn_163 rfl k_iinc_1 (by decide) rfl ?_
  refine h_goto (tgt := 13) dX1_hearIn_166 (by decide) ?_
  exact (H13 _ _ _ _ _ h)
def f_X1_hearIn_120 (k13 : Mem → Int32 → Int32 → Int32 → Int32 → Option (Mem)) (P : PMem) (z0 : Nat) (I : Mem) (v1 : Int32) (v2 : Int32) (v3 : Int32) (v4 : Int32) (v7 : Int32) (s0 : Int32) : Option (Mem) :=
  gd (inb v4 6) <|
  if v7 = s0 then (f_X1_hearIn_142 k13 P z0 I v1 v2 v3 v4 (0 : Int32) v2 z0 v4.toNatClampNeg) else (f_X1_hearIn_142 k13 P z0 I v1 v2 v3 v4 (1 : Int32) v2 z0 v4.toNatClampNeg)
theorem b_X1_hearIn_120 (X : CX) (Q : State → Prop) {I : Mem} {P : PMem} {O : Nat → Int64} {D : Bool} {n : Nat} {k13 : Mem → Int32 → Int32 → Int32 → Int32 → Option (Mem)} {z0 : Nat} {v1 : Int32} {v2 : Int32} {v3 : Int32} {v4 : Int32} {v7 : Int32} {s0 : Int32} {r : (Mem)}  (H13 : ∀ (I : Mem) (v1 : Int32) (v2 : Int32) (v3 : Int32) (v4 : Int32), k13 I v1 v2 v3 v4 = some r → Here X cX1_hearIn RX1 9 (none) 4 n 13 [some (.inr (.inr (1, z0, 0))), some (.inl v1), some (.inl v2), some (.inl v3), some (.inl v4), none, none, none, none] [] I P O D n Q) (hz0 : z0 < 2) (h : f_X1_hearIn_120 k13 P z0 I v1 v2 v3 v4 v7 s0 = some r) (E : EndR X cX1_hearIn RX1 9 (none) 4 n none r P O D Q) : Here X cX1_hearIn RX1 9 (none) 4 n 120 [some (.inr (.inr (1, z0, 0))), some (.inl v1), some (.inl v2), some (.inl v3), some (.inl v4), none, none, some (.inl v7), none] [.inl s0] I P O D n Q := by
  unfold f_X1_hearIn_120 at h
  refine h_istore dX1_hearIn_120 (by decide) rfl ?_
  refine h_aload_n dX1_hearIn_122 rfl ?_
  refine g_X1_25 (by omega) dX1_hearIn_123 ?_
  refine h_iload dX1_hearIn_126 rfl ?_
  obtain ⟨g1, h⟩ := gd_some h
  refine ag_19 (by omega) v4.toNatClampNeg rfl dX1_hearIn_128 g1 ?_
  have w1 := inb_lt g1
  refine h_iload_n dX1_hearIn_129 rfl ?_
  refine h_iload dX1_hearIn_130 rfl ?_
  refine h_iload dX1_hearIn_132 rfl ?_
  refine h_icmp_eq (tgt := 141) dX1_hearIn_134 (by decide) (fun q1 => ?_) (fun q1 => ?_)
  · rw [if_pos q1] at h
    refine h_iconst (0 : Int32) dX1_hearIn_141 k_iconst_0 ?_
    exact h_mask [true, true, true, true, true, false, false, false, false] (b_X1_hearIn_142 X Q H13 hz0 (by omega) (by omega) h E)
  · rw [if_neg q1] at h
    refine h_iconst (1 : Int32) dX1_hearIn_137 k_iconst_1 ?_
    refine h_goto (tgt := 142) dX1_hearIn_138 (by decide) ?_
    exact h_mask [true, true, true, true, true, false, false, false, false] (b_X1_hearIn_142 X Q H13 hz0 (by omega) (by omega) h E)
def f_X1_hearIn_100 (k13 : Mem → Int32 → Int32 → Int32 → Int32 → Option (Mem)) (P : PMem) (z0 : Nat) (I : Mem) (v1 : Int32) (v2 : Int32) (v3 : Int32) (v4 : Int32) (s0 : Int32) : Option (Mem) :=
  gd (decide ((P 1 z0 0 0) < 2)) <|
  gd (inb v2 5) <|
  if (I 33 (P 1 z0 0 0) 0 v2.toNatClampNeg) = (2 : Int32) then (f_X1_hearIn_120 k13 P z0 I v1 v2 v3 v4 s0 (1 : Int32)) else (f_X1_hearIn_120 k13 P z0 I v1 v2 v3 v4 s0 (0 : Int32))
theorem b_X1_hearIn_100 (X : CX) (Q : State → Prop) {I : Mem} {P : PMem} {O : Nat → Int64} {D : Bool} {n : Nat} {k13 : Mem → Int32 → Int32 → Int32 → Int32 → Option (Mem)} {z0 : Nat} {v1 : Int32} {v2 : Int32} {v3 : Int32} {v4 : Int32} {s0 : Int32} {r : (Mem)}  (H13 : ∀ (I : Mem) (v1 : Int32) (v2 : Int32) (v3 : Int32) (v4 : Int32), k13 I v1 v2 v3 v4 = some r → Here X cX1_hearIn RX1 9 (none) 4 n 13 [some (.inr (.inr (1, z0, 0))), some (.inl v1), some (.inl v2), some (.inl v3), some (.inl v4), none, none, none, none] [] I P O D n Q) (hz0 : z0 < 2) (h : f_X1_hearIn_100 k13 P z0 I v1 v2 v3 v4 s0 = some r) (E : EndR X cX1_hearIn RX1 9 (none) 4 n none r P O D Q) : Here X cX1_hearIn RX1 9 (none) 4 n 100 [some (.inr (.inr (1, z0, 0))), some (.inl v1), some (.inl v2), some (.inl v3), some (.inl v4), none, none, none, none] [.inl s0] I P O D n Q := by
  unfold f_X1_hearIn_100 at h
  refine h_istore dX1_hearIn_100 (by decide) rfl ?_
  refine h_aload_n dX1_hearIn_102 rfl ?_
  refine g_X1_44 (by omega) dX1_hearIn_103 ?_
  obtain ⟨g1, h⟩ := gd_some h
  have w1 := of_decide_eq_true g1
  refine g_X1_70 (by omega) dX1_hearIn_106 ?_
  refine h_iload_n dX1_hearIn_109 rfl ?_
  obtain ⟨g2, h⟩ := gd_some h
  refine al_33 (by omega) v2.toNatClampNeg rfl dX1_hearIn_110 g2 ?_
  refine h_iconst (2 : Int32) dX1_hearIn_111 k_iconst_2 ?_
  refine h_icmp_ne (tgt := 119) dX1_hearIn_112 (by decide) (fun q1 => ?_) (fun q1 => ?_)
  · rw [if_neg q1] at h
    refine h_iconst (0 : Int32) dX1_hearIn_119 k_iconst_0 ?_
    exact (b_X1_hearIn_120 X Q H13 hz0  h E)
  · rw [if_pos q1] at h
    refine h_iconst (1 : Int32) dX1_hearIn_115 k_iconst_1 ?_
    refine h_goto (tgt := 120) dX1_hearIn_116 (by decide) ?_
    exact (b_X1_hearIn_120 X Q H13 hz0  h E)
def f_X1_hearIn_13  (P : PMem) (z0 : Nat) : Nat → Mem → Int32 → Int32 → Int32 → Int32 → Option (Mem)
  | 0, _, _, _, _, _ => none
  | fu + 1, I, v1, v2, v3, v4 =>
    gd (decide ((P 1 z0 0 0) < 2)) <|
    if (I 3 (P 1 z0 0 0) 0 13) ≤ v4 then (some I) else (gd (inb v4 6) <|
    gd (inb v1 9) <|
    bnd (I 40 (P 1 z0 0 0) v4.toNatClampNeg v1.toNatClampNeg) fun x1 =>
    if x1 = (-1 : Int32) then ((f_X1_hearIn_13 P z0 fu) I v1 v2 v3 (v4 + (1 : Int32))) else (gd (inb v2 5) <|
    if (I 16 z0 v4.toNatClampNeg v2.toNatClampNeg) = (-1 : Int32) then ((f_X1_howManySaidBefore I P z0 v4 v3).bind fun y1 =>
    (f_X4_gives (P 1 z0 0 0) I x1 (I 35 (P 1 z0 0 0) 0 v2.toNatClampNeg) v3 v1 y1).bind fun y2 =>
    if y2.1 ≤ 0 then (f_X1_hearIn_100 (f_X1_hearIn_13 P z0 fu) P z0 y2.2 v1 v2 v3 v4 (0 : Int32)) else (f_X1_hearIn_100 (f_X1_hearIn_13 P z0 fu) P z0 y2.2 v1 v2 v3 v4 (1 : Int32))) else ((f_X1_hearIn_13 P z0 fu) I v1 v2 v3 (v4 + (1 : Int32)))))
theorem b_X1_hearIn_13 (X : CX) (Q : State → Prop) {P : PMem} {O : Nat → Int64} {D : Bool} {n : Nat} {z0 : Nat} {r : (Mem)}  (hz0 : z0 < 2) : ∀ (fu : Nat) {I : Mem} {v1 : Int32} {v2 : Int32} {v3 : Int32} {v4 : Int32}, f_X1_hearIn_13 P z0 fu I v1 v2 v3 v4 = some r → EndR X cX1_hearIn RX1 9 (none) 4 n none r P O D Q → Here X cX1_hearIn RX1 9 (none) 4 n 13 [some (.inr (.inr (1, z0, 0))), some (.inl v1), some (.inl v2), some (.inl v3), some (.inl v4), none, none, none, none] [] I P O D n Q := by
  intro fu
  induction fu with
  | zero => intro I v1 v2 v3 v4 h E; cases h
  | succ fu ih =>
  intro I v1 v2 v3 v4 h E
  have H13 : ∀ (I : Mem) (v1 : Int32) (v2 : Int32) (v3 : Int32) (v4 : Int32), f_X1_hearIn_13 P z0 fu I v1 v2 v3 v4 = some r → Here X cX1_hearIn RX1 9 (none) 4 n 13 [some (.inr (.inr (1, z0, 0))), some (.inl v1), some (.inl v2), some (.inl v3), some (.inl v4), none, none, none, none] [] I P O D n Q := fun _ _ _ _ _ b => ih b E
  simp only [f_X1_hearIn_13] at h
  refine h_iload dX1_hearIn_13 rfl ?_
  refine h_aload_n dX1_hearIn_15 rfl ?_
  refine g_X1_44 (by omega) dX1_hearIn_16 ?_
  obtain ⟨g1, h⟩ := gd_some h
  have w1 := of_decide_eq_true g1
  refine g_X1_95 (by omega) dX1_hearIn_19 ?_
  refine h_icmp_ge (tgt := 169) dX1_hearIn_22 (by decide) (fun q1 => ?_) (fun q1 => ?_)
  · rw [if_pos q1] at h
    cases h
    exact h_vret dX1_hearIn_169 rfl E
  · rw [if_neg q1] at h
    refine h_aload_n dX1_hearIn_25 rfl ?_
    refine g_X1_44 (by omega) dX1_hearIn_26 ?_
    refine g_X1_120 (by omega) dX1_hearIn_29 ?_
    refine h_iload dX1_hearIn_32 rfl ?_
    obtain ⟨g2, h⟩ := gd_some h
    refine ag_39 (by omega) v4.toNatClampNeg rfl dX1_hearIn_34 g2 ?_
    have w2 := inb_lt g2
    refine h_iload_n dX1_hearIn_35 rfl ?_
    obtain ⟨g3, h⟩ := gd_some h
    refine al_40 (by omega) (by omega) v1.toNatClampNeg rfl dX1_hearIn_36 g3 ?_
    obtain ⟨x1, e1, h⟩ := bnd_some h
    refine h_nmv e1 ?_
    refine h_istore dX1_hearIn_37 (by decide) rfl ?_
    refine h_iload dX1_hearIn_39 rfl ?_
    refine h_iconst (-1 : Int32) dX1_hearIn_41 k_iconst_m1 ?_
    refine h_icmp_eq (tgt := 163) dX1_hearIn_42 (by decide) (fun q2 => ?_) (fun q2 => ?_)
    · rw [if_pos q2] at h
      refine h_iinc (1 : Int32) dX1_hearIn_163 rfl k_iinc_1 (by decide) rfl ?_
      refine h_goto (tgt := 13) dX1_hearIn_166 (by decide) ?_
      exact h_mask [true, true, true, true, true, false, false, false, false] (H13 _ _ _ _ _ h)
    · rw [if_neg q2] at h
      refine h_aload_n dX1_hearIn_45 rfl ?_
      refine g_X1_19 (by omega) dX1_hearIn_46 ?_
      refine h_iload dX1_hearIn_49 rfl ?_
      refine ag_15 (by omega) v4.toNatClampNeg rfl dX1_hearIn_51 g2 ?_
      refine h_iload_n dX1_hearIn_52 rfl ?_
      obtain ⟨g4, h⟩ := gd_some h
      refine al_16 (by omega) (by omega) v2.toNatClampNeg rfl dX1_hearIn_53 g4 ?_
      refine h_iconst (-1 : Int32) dX1_hearIn_54 k_iconst_m1 ?_
      refine h_icmp_ne (tgt := 163) dX1_hearIn_55 (by decide) (fun q3 => ?_) (fun q3 => ?_)
      · rw [if_neg q3] at h
        refine h_iinc (1 : Int32) dX1_hearIn_163 rfl k_iinc_1 (by decide) rfl ?_
        refine h_goto (tgt := 13) dX1_hearIn_166 (by decide) ?_
        exact h_mask [true, true, true, true, true, false, false, false, false] (H13 _ _ _ _ _ h)
      · rw [if_pos q3] at h
        refine h_aload_n dX1_hearIn_58 rfl ?_
        refine h_iload dX1_hearIn_59 rfl ?_
        refine h_iload_n dX1_hearIn_61 rfl ?_
        obtain ⟨y1, hh1, h⟩ := obd_some h
        refine h_cVi [.inl v4, .inl v3] (m_X1_howManySaidBefore (by omega) hh1) cw_X1_123 dX1_hearIn_62 rfl (ok_1 (by omega)) (by decide) rfl (Or.inr rfl) rfl ?_
        refine h_istore dX1_hearIn_65 (by decide) rfl ?_
        refine h_aload_n dX1_hearIn_67 rfl ?_
        refine g_X1_44 (by omega) dX1_hearIn_68 ?_
        refine g_X1_127 (by omega) dX1_hearIn_71 ?_
        refine h_iload dX1_hearIn_74 rfl ?_
        refine h_aload_n dX1_hearIn_76 rfl ?_
        refine g_X1_44 (by omega) dX1_hearIn_77 ?_
        refine g_X1_131 (by omega) dX1_hearIn_80 ?_
        refine h_iload_n dX1_hearIn_83 rfl ?_
        refine al_35 (by omega) v2.toNatClampNeg rfl dX1_hearIn_84 g4 ?_
        refine h_iload_n dX1_hearIn_85 rfl ?_
        refine h_iload_n dX1_hearIn_86 rfl ?_
        refine h_iload dX1_hearIn_87 rfl ?_
        obtain ⟨y2, hh2, h⟩ := obd_some h
        refine h_cVi [.inl x1, .inl (I 35 (P 1 z0 0 0) 0 v2.toNatClampNeg), .inl v3, .inl v1, .inl y1] (m_X4_gives (by omega) hh2) cw_X1_134 dX1_hearIn_89 rfl (ok_4 (by omega)) (by decide) rfl (Or.inr rfl) rfl ?_
        refine h_if_le (tgt := 99) dX1_hearIn_92 (by decide) (fun q4 => ?_) (fun q4 => ?_)
        · rw [if_pos q4] at h
          refine h_iconst (0 : Int32) dX1_hearIn_99 k_iconst_0 ?_
          exact h_mask [true, true, true, true, true, false, false, false, false] (b_X1_hearIn_100 X Q H13 hz0  h E)
        · rw [if_neg q4] at h
          refine h_iconst (1 : Int32) dX1_hearIn_95 k_iconst_1 ?_
          refine h_goto (tgt := 100) dX1_hearIn_96 (by decide) ?_
          exact h_mask [true, true, true, true, true, false, false, false, false] (b_X1_hearIn_100 X Q H13 hz0  h E)
def f_X1_hearIn  (P : PMem) (z0 : Nat) (I : Mem) (v1 : Int32) (v2 : Int32) (v3 : Int32) : Option (Mem) :=
  (f_X1_isFeast I P z0 v1 v3).bind fun y1 =>
  if y1 = 0 then (f_X1_hearIn_13 P z0 FU I v1 v2 v3 (0 : Int32)) else (some I)
theorem b_X1_hearIn (X : CX) (Q : State → Prop) {I : Mem} {P : PMem} {O : Nat → Int64} {D : Bool} {n : Nat} {z0 : Nat} {v1 : Int32} {v2 : Int32} {v3 : Int32} {r : (Mem)}  (hz0 : z0 < 2) (h : f_X1_hearIn P z0 I v1 v2 v3 = some r) (E : EndR X cX1_hearIn RX1 9 (none) 4 n none r P O D Q) : Here X cX1_hearIn RX1 9 (none) 4 n 0 [some (.inr (.inr (1, z0, 0))), some (.inl v1), some (.inl v2), some (.inl v3), none, none, none, none, none] [] I P O D n Q := by
  unfold f_X1_hearIn at h
  refine h_aload_n dX1_hearIn_0 rfl ?_
  refine h_iload_n dX1_hearIn_1 rfl ?_
  refine h_iload_n dX1_hearIn_2 rfl ?_
  obtain ⟨y1, hh1, h⟩ := obd_some h
  refine h_cVi [.inl v1, .inl v3] (m_X1_isFeast (by omega) hh1) cw_X1_116 dX1_hearIn_3 rfl (ok_1 (by omega)) (by decide) rfl (Or.inr rfl) rfl ?_
  refine h_if_eq (tgt := 10) dX1_hearIn_6 (by decide) (fun q1 => ?_) (fun q1 => ?_)
  · rw [if_pos q1] at h
    refine h_iconst (0 : Int32) dX1_hearIn_10 k_iconst_0 ?_
    refine h_istore dX1_hearIn_11 (by decide) rfl ?_
    exact (b_X1_hearIn_13 X Q hz0 FU  h E)
  · rw [if_neg q1] at h
    cases h
    exact h_vret dX1_hearIn_9 rfl E
theorem m_X1_hearIn {I : Mem} {P : PMem} {O : Nat → Int64} {D : Bool} {n : Nat} {z0 : Nat} {v1 : Int32} {v2 : Int32} {v3 : Int32} {r : (Mem)} (hz0 : z0 < 2) (h : f_X1_hearIn P z0 I v1 v2 v3 = some r) : MethR yX1_hearIn cX1_hearIn 9 (none) 4 [.inr (.inr (1, z0, 0)), .inl v1, .inl v2, .inl v3] I P O D n none r P O D n := meth_R (Nat.le_refl _) (by decide) rfl (Nat.le_of_ble_eq_true rfl) rfl (fun X Q E => b_X1_hearIn X Q hz0 h E)
def f_X1_comesAcross_13  (I : Mem) (P : PMem) (z0 : Nat) : Nat → Int32 → Int32 → Int32 → Int32 → Int32 → Option (Int32)
  | 0, _, _, _, _, _ => none
  | fu + 1, v2, v3, v4, v5, v6 =>
    gd (decide ((P 1 z0 0 0) < 2)) <|
    gd (inb v2 5) <|
    if (I 36 (P 1 z0 0 0) 0 v2.toNatClampNeg) ≤ v6 then (some (0 : Int32)) else (gd (inb v6 7) <|
    if v5 < (I 14 z0 v2.toNatClampNeg v6.toNatClampNeg) then (some (0 : Int32)) else (gd (inb v3 9) <|
    gd (inb (I 12 z0 v2.toNatClampNeg v6.toNatClampNeg) 9) <|
    bnd (I 32 (P 1 z0 0 0) v3.toNatClampNeg ((I 12 z0 v2.toNatClampNeg v6.toNatClampNeg).toNatClampNeg)) fun x1 =>
    if x1 = (-1 : Int32) then ((f_X1_comesAcross_13 I P z0 fu) v2 v3 v4 v5 (v6 + (1 : Int32))) else (if (I 14 z0 v2.toNatClampNeg v6.toNatClampNeg) < (v4 + x1) then ((f_X1_comesAcross_13 I P z0 fu) v2 v3 v4 v5 (v6 + (1 : Int32))) else (some (1 : Int32)))))
theorem b_X1_comesAcross_13 (X : CX) (Q : State → Prop) {I : Mem} {P : PMem} {O : Nat → Int64} {D : Bool} {n : Nat} {z0 : Nat} {r : (Int32)}  (hz0 : z0 < 2) : ∀ (fu : Nat) {v2 : Int32} {v3 : Int32} {v4 : Int32} {v5 : Int32} {v6 : Int32}, f_X1_comesAcross_13 I P z0 fu v2 v3 v4 v5 v6 = some r → EndR X cX1_comesAcross RX1 8 (some .boolean) 2 n (some (.inl r)) I P O D Q → Here X cX1_comesAcross RX1 8 (some .boolean) 2 n 13 [some (.inr (.inr (1, z0, 0))), none, some (.inl v2), some (.inl v3), some (.inl v4), some (.inl v5), some (.inl v6), none] [] I P O D n Q := by
  intro fu
  induction fu with
  | zero => intro v2 v3 v4 v5 v6 h E; cases h
  | succ fu ih =>
  intro v2 v3 v4 v5 v6 h E
  have H13 : ∀ (v2 : Int32) (v3 : Int32) (v4 : Int32) (v5 : Int32) (v6 : Int32), f_X1_comesAcross_13 I P z0 fu v2 v3 v4 v5 v6 = some r → Here X cX1_comesAcross RX1 8 (some .boolean) 2 n 13 [some (.inr (.inr (1, z0, 0))), none, some (.inl v2), some (.inl v3), some (.inl v4), some (.inl v5), some (.inl v6), none] [] I P O D n Q := fun _ _ _ _ _ b => ih b E
  simp only [f_X1_comesAcross_13] at h
  refine h_iload dX1_comesAcross_13 rfl ?_
  refine h_aload_n dX1_comesAcross_15 rfl ?_
  refine g_X1_44 (by omega) dX1_comesAcross_16 ?_
  obtain ⟨g1, h⟩ := gd_some h
  have w1 := of_decide_eq_true g1
  refine g_X1_73 (by omega) dX1_comesAcross_19 ?_
  refine h_iload_n dX1_comesAcross_22 rfl ?_
  obtain ⟨g2, h⟩ := gd_some h
  refine al_36 (by omega) v2.toNatClampNeg rfl dX1_comesAcross_23 g2 ?_
  refine h_icmp_ge (tgt := 93) dX1_comesAcross_24 (by decide) (fun q1 => ?_) (fun q1 => ?_)
  · rw [if_pos q1] at h
    refine h_iconst (0 : Int32) dX1_comesAcross_93 k_iconst_0 ?_
    cases h
    exact h_zret dX1_comesAcross_94 rfl rfl E
  · rw [if_neg q1] at h
    refine h_aload_n dX1_comesAcross_27 rfl ?_
    refine g_X1_16 (by omega) dX1_comesAcross_28 ?_
    refine h_iload_n dX1_comesAcross_31 rfl ?_
    refine ag_13 (by omega) v2.toNatClampNeg rfl dX1_comesAcross_32 g2 ?_
    have w2 := inb_lt g2
    refine h_iload dX1_comesAcross_33 rfl ?_
    obtain ⟨g3, h⟩ := gd_some h
    refine al_14 (by omega) (by omega) v6.toNatClampNeg rfl dX1_comesAcross_35 g3 ?_
    refine h_iload dX1_comesAcross_36 rfl ?_
    refine h_icmp_gt (tgt := 93) dX1_comesAcross_38 (by decide) (fun q2 => ?_) (fun q2 => ?_)
    · rw [if_pos q2] at h
      refine h_iconst (0 : Int32) dX1_comesAcross_93 k_iconst_0 ?_
      cases h
      exact h_zret dX1_comesAcross_94 rfl rfl E
    · rw [if_neg q2] at h
      refine h_aload_n dX1_comesAcross_41 rfl ?_
      refine g_X1_44 (by omega) dX1_comesAcross_42 ?_
      refine g_X1_169 (by omega) dX1_comesAcross_45 ?_
      refine h_iload_n dX1_comesAcross_48 rfl ?_
      obtain ⟨g4, h⟩ := gd_some h
      refine ag_31 (by omega) v3.toNatClampNeg rfl dX1_comesAcross_49 g4 ?_
      have w3 := inb_lt g4
      refine h_aload_n dX1_comesAcross_50 rfl ?_
      refine g_X1_11 (by omega) dX1_comesAcross_51 ?_
      refine h_iload_n dX1_comesAcross_54 rfl ?_
      refine ag_11 (by omega) v2.toNatClampNeg rfl dX1_comesAcross_55 g2 ?_
      refine h_iload dX1_comesAcross_56 rfl ?_
      refine al_12 (by omega) (by omega) v6.toNatClampNeg rfl dX1_comesAcross_58 g3 ?_
      obtain ⟨g5, h⟩ := gd_some h
      refine al_32 (by omega) (by omega) ((I 12 z0 v2.toNatClampNeg v6.toNatClampNeg).toNatClampNeg) rfl dX1_comesAcross_59 g5 ?_
      obtain ⟨x1, e1, h⟩ := bnd_some h
      refine h_nmv e1 ?_
      refine h_istore dX1_comesAcross_60 (by decide) rfl ?_
      refine h_iload dX1_comesAcross_62 rfl ?_
      refine h_iconst (-1 : Int32) dX1_comesAcross_64 k_iconst_m1 ?_
      refine h_icmp_eq (tgt := 87) dX1_comesAcross_65 (by decide) (fun q3 => ?_) (fun q3 => ?_)
      · rw [if_pos q3] at h
        refine h_iinc (1 : Int32) dX1_comesAcross_87 rfl k_iinc_1 (by decide) rfl ?_
        refine h_goto (tgt := 13) dX1_comesAcross_90 (by decide) ?_
        exact h_mask [true, false, true, true, true, true, true, false] (H13 _ _ _ _ _ h)
      · rw [if_neg q3] at h
        refine h_iload dX1_comesAcross_68 rfl ?_
        refine h_iload dX1_comesAcross_70 rfl ?_
        refine h_iadd dX1_comesAcross_72 ?_
        refine h_aload_n dX1_comesAcross_73 rfl ?_
        refine g_X1_16 (by omega) dX1_comesAcross_74 ?_
        refine h_iload_n dX1_comesAcross_77 rfl ?_
        refine ag_13 (by omega) v2.toNatClampNeg rfl dX1_comesAcross_78 g2 ?_
        refine h_iload dX1_comesAcross_79 rfl ?_
        refine al_14 (by omega) (by omega) v6.toNatClampNeg rfl dX1_comesAcross_81 g3 ?_
        refine h_icmp_gt (tgt := 87) dX1_comesAcross_82 (by decide) (fun q4 => ?_) (fun q4 => ?_)
        · rw [if_pos q4] at h
          refine h_iinc (1 : Int32) dX1_comesAcross_87 rfl k_iinc_1 (by decide) rfl ?_
          refine h_goto (tgt := 13) dX1_comesAcross_90 (by decide) ?_
          exact h_mask [true, false, true, true, true, true, true, false] (H13 _ _ _ _ _ h)
        · rw [if_neg q4] at h
          refine h_iconst (1 : Int32) dX1_comesAcross_85 k_iconst_1 ?_
          cases h
          exact h_zret dX1_comesAcross_86 rfl rfl E
def f_X1_comesAcross  (I : Mem) (P : PMem) (z0 : Nat) (v1 : Int32) (v2 : Int32) (v3 : Int32) (v4 : Int32) : Option (Int32) :=
  gd (inb v1 6) <|
  gd (inb v2 5) <|
  bnd (I 16 z0 v1.toNatClampNeg v2.toNatClampNeg) fun x1 =>
  f_X1_comesAcross_13 I P z0 FU v2 v3 v4 x1 (0 : Int32)
theorem b_X1_comesAcross (X : CX) (Q : State → Prop) {I : Mem} {P : PMem} {O : Nat → Int64} {D : Bool} {n : Nat} {z0 : Nat} {v1 : Int32} {v2 : Int32} {v3 : Int32} {v4 : Int32} {r : (Int32)}  (hz0 : z0 < 2) (h : f_X1_comesAcross I P z0 v1 v2 v3 v4 = some r) (E : EndR X cX1_comesAcross RX1 8 (some .boolean) 2 n (some (.inl r)) I P O D Q) : Here X cX1_comesAcross RX1 8 (some .boolean) 2 n 0 [some (.inr (.inr (1, z0, 0))), some (.inl v1), some (.inl v2), some (.inl v3), some (.inl v4), none, none, none] [] I P O D n Q := by
  unfold f_X1_comesAcross at h
  refine h_aload_n dX1_comesAcross_0 rfl ?_
  refine g_X1_19 (by omega) dX1_comesAcross_1 ?_
  refine h_iload_n dX1_comesAcross_4 rfl ?_
  obtain ⟨g1, h⟩ := gd_some h
  refine ag_15 (by omega) v1.toNatClampNeg rfl dX1_comesAcross_5 g1 ?_
  have w1 := inb_lt g1
  refine h_iload_n dX1_comesAcross_6 rfl ?_
  obtain ⟨g2, h⟩ := gd_some h
  refine al_16 (by omega) (by omega) v2.toNatClampNeg rfl dX1_comesAcross_7 g2 ?_
  obtain ⟨x1, e1, h⟩ := bnd_some h
  refine h_nmv e1 ?_
  refine h_istore dX1_comesAcross_8 (by decide) rfl ?_
  refine h_iconst (0 : Int32) dX1_comesAcross_10 k_iconst_0 ?_
  refine h_istore dX1_comesAcross_11 (by decide) rfl ?_
  exact h_mask [true, false, true, true, true, true, true, false] (b_X1_comesAcross_13 X Q hz0 FU  h E)
theorem m_X1_comesAcross {I : Mem} {P : PMem} {O : Nat → Int64} {D : Bool} {n : Nat} {z0 : Nat} {v1 : Int32} {v2 : Int32} {v3 : Int32} {v4 : Int32} {r : (Int32)} (hz0 : z0 < 2) (h : f_X1_comesAcross I P z0 v1 v2 v3 v4 = some r) : MethR yX1_comesAcross cX1_comesAcross 8 (some .boolean) 2 [.inr (.inr (1, z0, 0)), .inl v1, .inl v2, .inl v3, .inl v4] I P O D n (some (.inl r)) I P O D n := meth_R (Nat.le_refl _) (by decide) rfl (Nat.le_of_ble_eq_true rfl) rfl (fun X Q E => b_X1_comesAcross X Q hz0 h E)
def f_X1_reachedByWord_6  (I : Mem) (P : PMem) (z0 : Nat) : Nat → Int32 → Int32 → Int32 → Int32 → Int32 → Option (Int32)
  | 0, _, _, _, _, _ => none
  | fu + 1, v1, v2, v3, v4, v5 =>
    gd (decide ((P 1 z0 0 0) < 2)) <|
    if (I 3 (P 1 z0 0 0) 0 7) ≤ v5 then (some v4) else ((f_X1_comesAcross I P z0 v1 v5 v2 v3).bind fun y1 =>
    if y1 = 0 then ((f_X1_reachedByWord_6 I P z0 fu) v1 v2 v3 v4 (v5 + (1 : Int32))) else (bnd (v4 ||| (jshl (1 : Int32) v5)) fun x1 =>
    (f_X1_reachedByWord_6 I P z0 fu) v1 v2 v3 x1 (v5 + (1 : Int32))))
theorem b_X1_reachedByWord_6 (X : CX) (Q : State → Prop) {I : Mem} {P : PMem} {O : Nat → Int64} {D : Bool} {n : Nat} {z0 : Nat} {r : (Int32)}  (hz0 : z0 < 2) : ∀ (fu : Nat) {v1 : Int32} {v2 : Int32} {v3 : Int32} {v4 : Int32} {v5 : Int32}, f_X1_reachedByWord_6 I P z0 fu v1 v2 v3 v4 v5 = some r → EndR X cX1_reachedByWord RX1 6 (some .int) 3 n (some (.inl r)) I P O D Q → Here X cX1_reachedByWord RX1 6 (some .int) 3 n 6 [some (.inr (.inr (1, z0, 0))), some (.inl v1), some (.inl v2), some (.inl v3), some (.inl v4), some (.inl v5)] [] I P O D n Q := by
  intro fu
  induction fu with
  | zero => intro v1 v2 v3 v4 v5 h E; cases h
  | succ fu ih =>
  intro v1 v2 v3 v4 v5 h E
  have H6 : ∀ (v1 : Int32) (v2 : Int32) (v3 : Int32) (v4 : Int32) (v5 : Int32), f_X1_reachedByWord_6 I P z0 fu v1 v2 v3 v4 v5 = some r → Here X cX1_reachedByWord RX1 6 (some .int) 3 n 6 [some (.inr (.inr (1, z0, 0))), some (.inl v1), some (.inl v2), some (.inl v3), some (.inl v4), some (.inl v5)] [] I P O D n Q := fun _ _ _ _ _ b => ih b E
  simp only [f_X1_reachedByWord_6] at h
  refine h_iload dX1_reachedByWord_6 rfl ?_
  refine h_aload_n dX1_reachedByWord_8 rfl ?_
  refine g_X1_44 (by omega) dX1_reachedByWord_9 ?_
  obtain ⟨g1, h⟩ := gd_some h
  have w1 := of_decide_eq_true g1
  refine g_X1_56 (by omega) dX1_reachedByWord_12 ?_
  refine h_icmp_ge (tgt := 45) dX1_reachedByWord_15 (by decide) (fun q1 => ?_) (fun q1 => ?_)
  · rw [if_pos q1] at h
    refine h_iload dX1_reachedByWord_45 rfl ?_
    cases h
    exact h_iret dX1_reachedByWord_47 rfl E
  · rw [if_neg q1] at h
    refine h_aload_n dX1_reachedByWord_18 rfl ?_
    refine h_iload_n dX1_reachedByWord_19 rfl ?_
    refine h_iload dX1_reachedByWord_20 rfl ?_
    refine h_iload_n dX1_reachedByWord_22 rfl ?_
    refine h_iload_n dX1_reachedByWord_23 rfl ?_
    obtain ⟨y1, hh1, h⟩ := obd_some h
    refine h_cVi [.inl v1, .inl v5, .inl v2, .inl v3] (m_X1_comesAcross (by omega) hh1) cw_X1_158 dX1_reachedByWord_24 rfl (ok_1 (by omega)) (by decide) rfl (Or.inr rfl) rfl ?_
    refine h_if_eq (tgt := 39) dX1_reachedByWord_27 (by decide) (fun q2 => ?_) (fun q2 => ?_)
    · rw [if_pos q2] at h
      refine h_iinc (1 : Int32) dX1_reachedByWord_39 rfl k_iinc_1 (by decide) rfl ?_
      refine h_goto (tgt := 6) dX1_reachedByWord_42 (by decide) ?_
      exact (H6 _ _ _ _ _ h)
    · rw [if_neg q2] at h
      refine h_iload dX1_reachedByWord_30 rfl ?_
      refine h_iconst (1 : Int32) dX1_reachedByWord_32 k_iconst_1 ?_
      refine h_iload dX1_reachedByWord_33 rfl ?_
      refine h_shl dX1_reachedByWord_35 ?_
      refine h_ior dX1_reachedByWord_36 ?_
      obtain ⟨x1, e1, h⟩ := bnd_some h
      refine h_nmv e1 ?_
      refine h_istore dX1_reachedByWord_37 (by decide) rfl ?_
      refine h_iinc (1 : Int32) dX1_reachedByWord_39 rfl k_iinc_1 (by decide) rfl ?_
      refine h_goto (tgt := 6) dX1_reachedByWord_42 (by decide) ?_
      exact (H6 _ _ _ _ _ h)
def f_X1_reachedByWord  (I : Mem) (P : PMem) (z0 : Nat) (v1 : Int32) (v2 : Int32) (v3 : Int32) : Option (Int32) :=
  f_X1_reachedByWord_6 I P z0 FU v1 v2 v3 (0 : Int32) (0 : Int32)
theorem b_X1_reachedByWord (X : CX) (Q : State → Prop) {I : Mem} {P : PMem} {O : Nat → Int64} {D : Bool} {n : Nat} {z0 : Nat} {v1 : Int32} {v2 : Int32} {v3 : Int32} {r : (Int32)}  (hz0 : z0 < 2) (h : f_X1_reachedByWord I P z0 v1 v2 v3 = some r) (E : EndR X cX1_reachedByWord RX1 6 (some .int) 3 n (some (.inl r)) I P O D Q) : Here X cX1_reachedByWord RX1 6 (some .int) 3 n 0 [some (.inr (.inr (1, z0, 0))), some (.inl v1), some (.inl v2), some (.inl v3), none, none] [] I P O D n Q := by
  unfold f_X1_reachedByWord at h
  refine h_iconst (0 : Int32) dX1_reachedByWord_0 k_iconst_0 ?_
  refine h_istore dX1_reachedByWord_1 (by decide) rfl ?_
  refine h_iconst (0 : Int32) dX1_reachedByWord_3 k_iconst_0 ?_
  refine h_istore dX1_reachedByWord_4 (by decide) rfl ?_
  exact (b_X1_reachedByWord_6 X Q hz0 FU  h E)
theorem m_X1_reachedByWord {I : Mem} {P : PMem} {O : Nat → Int64} {D : Bool} {n : Nat} {z0 : Nat} {v1 : Int32} {v2 : Int32} {v3 : Int32} {r : (Int32)} (hz0 : z0 < 2) (h : f_X1_reachedByWord I P z0 v1 v2 v3 = some r) : MethR yX1_reachedByWord cX1_reachedByWord 6 (some .int) 3 [.inr (.inr (1, z0, 0)), .inl v1, .inl v2, .inl v3] I P O D n (some (.inl r)) I P O D n := meth_R (Nat.le_refl _) (by decide) rfl (Nat.le_of_ble_eq_true rfl) rfl (fun X Q E => b_X1_reachedByWord X Q hz0 h E)
def f_X1_reachedByAny_119  (I : Mem) (P : PMem) (z0 : Nat) : Nat → Int32 → Int32 → Nat → Int32 → Option (Int32)
  | 0, _, _, _, _ => none
  | fu + 1, v1, v2, z3, v4 =>
    if (I 6 z3 0 3) ≤ v4 then (some v2) else (gd (inb v4 (rowsLen z3)) <|
    if (I 44 z3 0 v4.toNatClampNeg) = v1 then ((f_X1_reachedByWord I P z0 v1 (I 45 z3 0 v4.toNatClampNeg) (I 46 z3 0 v4.toNatClampNeg)).bind fun y1 =>
    bnd (v2 ||| y1) fun x1 =>
    (f_X1_reachedByAny_119 I P z0 fu) v1 x1 z3 (v4 + (1 : Int32))) else ((f_X1_reachedByAny_119 I P z0 fu) v1 v2 z3 (v4 + (1 : Int32))))
theorem b_X1_reachedByAny_119 (X : CX) (Q : State → Prop) {I : Mem} {P : PMem} {O : Nat → Int64} {D : Bool} {n : Nat} {z0 : Nat} {r : (Int32)}  (hz0 : z0 < 2) : ∀ (fu : Nat) {v1 : Int32} {v2 : Int32} {z3 : Nat} {v4 : Int32} (hz3 : z3 < 10), f_X1_reachedByAny_119 I P z0 fu v1 v2 z3 v4 = some r → EndR X cX1_reachedByAny RX1 5 (some .int) 4 n (some (.inl r)) I P O D Q → Here X cX1_reachedByAny RX1 5 (some .int) 4 n 119 [some (.inr (.inr (1, z0, 0))), some (.inl v1), some (.inl v2), some (.inr (.inr (6, z3, 0))), some (.inl v4)] [] I P O D n Q := by
  intro fu
  induction fu with
  | zero => intro v1 v2 z3 v4 hz3 h E; cases h
  | succ fu ih =>
  intro v1 v2 z3 v4 hz3 h E
  have H119 : ∀ (v1 : Int32) (v2 : Int32) (z3 : Nat) (v4 : Int32), z3 < 10 → f_X1_reachedByAny_119 I P z0 fu v1 v2 z3 v4 = some r → Here X cX1_reachedByAny RX1 5 (some .int) 4 n 119 [some (.inr (.inr (1, z0, 0))), some (.inl v1), some (.inl v2), some (.inr (.inr (6, z3, 0))), some (.inl v4)] [] I P O D n Q := fun _ _ _ _ a0 b => ih a0 b E
  simp only [f_X1_reachedByAny_119] at h
  refine h_iload dX1_reachedByAny_119 rfl ?_
  refine h_aload_n dX1_reachedByAny_121 rfl ?_
  refine g_X1_144 (by omega) dX1_reachedByAny_122 ?_
  refine h_icmp_ge (tgt := 167) dX1_reachedByAny_125 (by decide) (fun q1 => ?_) (fun q1 => ?_)
  · rw [if_pos q1] at h
    refine h_iload_n dX1_reachedByAny_167 rfl ?_
    cases h
    exact h_iret dX1_reachedByAny_168 rfl E
  · rw [if_neg q1] at h
    refine h_aload_n dX1_reachedByAny_128 rfl ?_
    refine g_X1_149 (by omega) dX1_reachedByAny_129 ?_
    refine h_iload dX1_reachedByAny_132 rfl ?_
    obtain ⟨g1, h⟩ := gd_some h
    refine al_44 (by omega) v4.toNatClampNeg rfl dX1_reachedByAny_134 g1 ?_
    refine h_iload_n dX1_reachedByAny_135 rfl ?_
    refine h_icmp_ne (tgt := 161) dX1_reachedByAny_136 (by decide) (fun q2 => ?_) (fun q2 => ?_)
    · rw [if_neg q2] at h
      refine h_iinc (1 : Int32) dX1_reachedByAny_161 rfl k_iinc_1 (by decide) rfl ?_
      refine h_goto (tgt := 119) dX1_reachedByAny_164 (by decide) ?_
      exact (H119 _ _ _ _ (by omega) h)
    · rw [if_pos q2] at h
      refine h_iload_n dX1_reachedByAny_139 rfl ?_
      refine h_aload_n dX1_reachedByAny_140 rfl ?_
      refine h_iload_n dX1_reachedByAny_141 rfl ?_
      refine h_aload_n dX1_reachedByAny_142 rfl ?_
      refine g_X1_152 (by omega) dX1_reachedByAny_143 ?_
      refine h_iload dX1_reachedByAny_146 rfl ?_
      refine al_45 (by omega) v4.toNatClampNeg rfl dX1_reachedByAny_148 g1 ?_
      refine h_aload_n dX1_reachedByAny_149 rfl ?_
      refine g_X1_155 (by omega) dX1_reachedByAny_150 ?_
      refine h_iload dX1_reachedByAny_153 rfl ?_
      refine al_46 (by omega) v4.toNatClampNeg rfl dX1_reachedByAny_155 g1 ?_
      obtain ⟨y1, hh1, h⟩ := obd_some h
      refine h_cVi [.inl v1, .inl (I 45 z3 0 v4.toNatClampNeg), .inl (I 46 z3 0 v4.toNatClampNeg)] (m_X1_reachedByWord (by omega) hh1) cw_X1_165 dX1_reachedByAny_156 rfl (ok_1 (by omega)) (by decide) rfl (Or.inr rfl) rfl ?_
      refine h_ior dX1_reachedByAny_159 ?_
      obtain ⟨x1, e1, h⟩ := bnd_some h
      refine h_nmv e1 ?_
      refine h_istore_n dX1_reachedByAny_160 (by decide) rfl ?_
      refine h_iinc (1 : Int32) dX1_reachedByAny_161 rfl k_iinc_1 (by decide) rfl ?_
      refine h_goto (tgt := 119) dX1_reachedByAny_164 (by decide) ?_
      exact (H119 _ _ _ _ (by omega) h)
def f_X1_reachedByAny_18 (k4 : Int32 → Int32 → Int32 → Option (Int32)) (I : Mem) (P : PMem) (z0 : Nat) : Nat → Int32 → Int32 → Int32 → Int32 → Option (Int32)
  | 0, _, _, _, _ => none
  | fu + 1, v1, v2, v3, v4 =>
    gd (decide ((P 1 z0 0 0) < 2)) <|
    if (I 3 (P 1 z0 0 0) 0 7) ≤ v4 then (k4 v1 v2 (v3 + (1 : Int32))) else (gd (inb v1 6) <|
    gd (inb v4 5) <|
    if (I 16 z0 v1.toNatClampNeg v4.toNatClampNeg) = (-1 : Int32) then ((f_X1_reachedByAny_18 k4 I P z0 fu) v1 v2 v3 (v4 + (1 : Int32))) else (gd (inb v3 5) <|
    if (I 16 z0 v1.toNatClampNeg v3.toNatClampNeg) ≤ (I 16 z0 v1.toNatClampNeg v4.toNatClampNeg) then ((f_X1_reachedByAny_18 k4 I P z0 fu) v1 v2 v3 (v4 + (1 : Int32))) else ((f_X1_comesAcross I P z0 v1 v3 (I 18 z0 v1.toNatClampNeg v4.toNatClampNeg) (I 16 z0 v1.toNatClampNeg v4.toNatClampNeg)).bind fun y1 =>
    if y1 = 0 then ((f_X1_reachedByAny_18 k4 I P z0 fu) v1 v2 v3 (v4 + (1 : Int32))) else (bnd (v2 ||| (jshl (1 : Int32) v3)) fun x1 =>
    (f_X1_reachedByAny_18 k4 I P z0 fu) v1 x1 v3 (v4 + (1 : Int32))))))
theorem b_X1_reachedByAny_18 (X : CX) (Q : State → Prop) {I : Mem} {P : PMem} {O : Nat → Int64} {D : Bool} {n : Nat} {k4 : Int32 → Int32 → Int32 → Option (Int32)} {z0 : Nat} {r : (Int32)}  (H4 : ∀ (v1 : Int32) (v2 : Int32) (v3 : Int32), k4 v1 v2 v3 = some r → Here X cX1_reachedByAny RX1 5 (some .int) 4 n 4 [some (.inr (.inr (1, z0, 0))), some (.inl v1), some (.inl v2), some (.inl v3), none] [] I P O D n Q) (hz0 : z0 < 2) : ∀ (fu : Nat) {v1 : Int32} {v2 : Int32} {v3 : Int32} {v4 : Int32}, f_X1_reachedByAny_18 k4 I P z0 fu v1 v2 v3 v4 = some r → EndR X cX1_reachedByAny RX1 5 (some .int) 4 n (some (.inl r)) I P O D Q → Here X cX1_reachedByAny RX1 5 (some .int) 4 n 18 [some (.inr (.inr (1, z0, 0))), some (.inl v1), some (.inl v2), some (.inl v3), some (.inl v4)] [] I P O D n Q := by
  intro fu
  induction fu with
  | zero => intro v1 v2 v3 v4 h E; cases h
  | succ fu ih =>
  intro v1 v2 v3 v4 h E
  have H18 : ∀ (v1 : Int32) (v2 : Int32) (v3 : Int32) (v4 : Int32), f_X1_reachedByAny_18 k4 I P z0 fu v1 v2 v3 v4 = some r → Here X cX1_reachedByAny RX1 5 (some .int) 4 n 18 [some (.inr (.inr (1, z0, 0))), some (.inl v1), some (.inl v2), some (.inl v3), some (.inl v4)] [] I P O D n Q := fun _ _ _ _ b => ih b E
  simp only [f_X1_reachedByAny_18] at h
  refine h_iload dX1_reachedByAny_18 rfl ?_
  refine h_aload_n dX1_reachedByAny_20 rfl ?_
  refine g_X1_44 (by omega) dX1_reachedByAny_21 ?_
  obtain ⟨g1, h⟩ := gd_some h
  have w1 := of_decide_eq_true g1
  refine g_X1_56 (by omega) dX1_reachedByAny_24 ?_
  refine h_icmp_ge (tgt := 102) dX1_reachedByAny_27 (by decide) (fun q1 => ?_) (fun q1 => ?_)
  · rw [if_pos q1] at h
    refine h_iinc (1 : Int32) dX1_reachedByAny_102 rfl k_iinc_1 (by decide) rfl ?_
    refine h_goto (tgt := 4) dX1_reachedByAny_105 (by decide) ?_
    exact h_mask [true, true, true, true, false] (H4 _ _ _ h)
  · rw [if_neg q1] at h
    refine h_aload_n dX1_reachedByAny_30 rfl ?_
    refine g_X1_19 (by omega) dX1_reachedByAny_31 ?_
    refine h_iload_n dX1_reachedByAny_34 rfl ?_
    obtain ⟨g2, h⟩ := gd_some h
    refine ag_15 (by omega) v1.toNatClampNeg rfl dX1_reachedByAny_35 g2 ?_
    have w2 := inb_lt g2
    refine h_iload dX1_reachedByAny_36 rfl ?_
    obtain ⟨g3, h⟩ := gd_some h
    refine al_16 (by omega) (by omega) v4.toNatClampNeg rfl dX1_reachedByAny_38 g3 ?_
    refine h_iconst (-1 : Int32) dX1_reachedByAny_39 k_iconst_m1 ?_
    refine h_icmp_eq (tgt := 96) dX1_reachedByAny_40 (by decide) (fun q2 => ?_) (fun q2 => ?_)
    · rw [if_pos q2] at h
      refine h_iinc (1 : Int32) dX1_reachedByAny_96 rfl k_iinc_1 (by decide) rfl ?_
      refine h_goto (tgt := 18) dX1_reachedByAny_99 (by decide) ?_
      exact (H18 _ _ _ _ h)
    · rw [if_neg q2] at h
      refine h_aload_n dX1_reachedByAny_43 rfl ?_
      refine g_X1_19 (by omega) dX1_reachedByAny_44 ?_
      refine h_iload_n dX1_reachedByAny_47 rfl ?_
      refine ag_15 (by omega) v1.toNatClampNeg rfl dX1_reachedByAny_48 g2 ?_
      refine h_iload dX1_reachedByAny_49 rfl ?_
      refine al_16 (by omega) (by omega) v4.toNatClampNeg rfl dX1_reachedByAny_51 g3 ?_
      refine h_aload_n dX1_reachedByAny_52 rfl ?_
      refine g_X1_19 (by omega) dX1_reachedByAny_53 ?_
      refine h_iload_n dX1_reachedByAny_56 rfl ?_
      refine ag_15 (by omega) v1.toNatClampNeg rfl dX1_reachedByAny_57 g2 ?_
      refine h_iload_n dX1_reachedByAny_58 rfl ?_
      obtain ⟨g4, h⟩ := gd_some h
      refine al_16 (by omega) (by omega) v3.toNatClampNeg rfl dX1_reachedByAny_59 g4 ?_
      refine h_icmp_ge (tgt := 96) dX1_reachedByAny_60 (by decide) (fun q3 => ?_) (fun q3 => ?_)
      · rw [if_pos q3] at h
        refine h_iinc (1 : Int32) dX1_reachedByAny_96 rfl k_iinc_1 (by decide) rfl ?_
        refine h_goto (tgt := 18) dX1_reachedByAny_99 (by decide) ?_
        exact (H18 _ _ _ _ h)
      · rw [if_neg q3] at h
        refine h_aload_n dX1_reachedByAny_63 rfl ?_
        refine h_iload_n dX1_reachedByAny_64 rfl ?_
        refine h_iload_n dX1_reachedByAny_65 rfl ?_
        refine h_aload_n dX1_reachedByAny_66 rfl ?_
        refine g_X1_22 (by omega) dX1_reachedByAny_67 ?_
        refine h_iload_n dX1_reachedByAny_70 rfl ?_
        refine ag_17 (by omega) v1.toNatClampNeg rfl dX1_reachedByAny_71 g2 ?_
        refine h_iload dX1_reachedByAny_72 rfl ?_
        refine al_18 (by omega) (by omega) v4.toNatClampNeg rfl dX1_reachedByAny_74 g3 ?_
        refine h_aload_n dX1_reachedByAny_75 rfl ?_
        refine g_X1_19 (by omega) dX1_reachedByAny_76 ?_
        refine h_iload_n dX1_reachedByAny_79 rfl ?_
        refine ag_15 (by omega) v1.toNatClampNeg rfl dX1_reachedByAny_80 g2 ?_
        refine h_iload dX1_reachedByAny_81 rfl ?_
        refine al_16 (by omega) (by omega) v4.toNatClampNeg rfl dX1_reachedByAny_83 g3 ?_
        obtain ⟨y1, hh1, h⟩ := obd_some h
        refine h_cVi [.inl v1, .inl v3, .inl (I 18 z0 v1.toNatClampNeg v4.toNatClampNeg), .inl (I 16 z0 v1.toNatClampNeg v4.toNatClampNeg)] (m_X1_comesAcross (by omega) hh1) cw_X1_158 dX1_reachedByAny_84 rfl (ok_1 (by omega)) (by decide) rfl (Or.inr rfl) rfl ?_
        refine h_if_eq (tgt := 96) dX1_reachedByAny_87 (by decide) (fun q4 => ?_) (fun q4 => ?_)
        · rw [if_pos q4] at h
          refine h_iinc (1 : Int32) dX1_reachedByAny_96 rfl k_iinc_1 (by decide) rfl ?_
          refine h_goto (tgt := 18) dX1_reachedByAny_99 (by decide) ?_
          exact (H18 _ _ _ _ h)
        · rw [if_neg q4] at h
          refine h_iload_n dX1_reachedByAny_90 rfl ?_
          refine h_iconst (1 : Int32) dX1_reachedByAny_91 k_iconst_1 ?_
          refine h_iload_n dX1_reachedByAny_92 rfl ?_
          refine h_shl dX1_reachedByAny_93 ?_
          refine h_ior dX1_reachedByAny_94 ?_
          obtain ⟨x1, e1, h⟩ := bnd_some h
          refine h_nmv e1 ?_
          refine h_istore_n dX1_reachedByAny_95 (by decide) rfl ?_
          refine h_iinc (1 : Int32) dX1_reachedByAny_96 rfl k_iinc_1 (by decide) rfl ?_
          refine h_goto (tgt := 18) dX1_reachedByAny_99 (by decide) ?_
          exact (H18 _ _ _ _ h)
def f_X1_reachedByAny_4  (I : Mem) (P : PMem) (z0 : Nat) : Nat → Int32 → Int32 → Int32 → Option (Int32)
  | 0, _, _, _ => none
  | fu + 1, v1, v2, v3 =>
    gd (decide ((P 1 z0 0 0) < 2)) <|
    if (I 3 (P 1 z0 0 0) 0 7) ≤ v3 then (gd (decide ((P 1 z0 0 1) < 2)) <|
    f_X1_reachedByAny_119 I P z0 FU v1 v2 (5 * (P 1 z0 0 1) + 0) (0 : Int32)) else (f_X1_reachedByAny_18 (f_X1_reachedByAny_4 I P z0 fu) I P z0 FU v1 v2 v3 (0 : Int32))
theorem b_X1_reachedByAny_4 (X : CX) (Q : State → Prop) {I : Mem} {P : PMem} {O : Nat → Int64} {D : Bool} {n : Nat} {z0 : Nat} {r : (Int32)}  (hz0 : z0 < 2) : ∀ (fu : Nat) {v1 : Int32} {v2 : Int32} {v3 : Int32}, f_X1_reachedByAny_4 I P z0 fu v1 v2 v3 = some r → EndR X cX1_reachedByAny RX1 5 (some .int) 4 n (some (.inl r)) I P O D Q → Here X cX1_reachedByAny RX1 5 (some .int) 4 n 4 [some (.inr (.inr (1, z0, 0))), some (.inl v1), some (.inl v2), some (.inl v3), none] [] I P O D n Q := by
  intro fu
  induction fu with
  | zero => intro v1 v2 v3 h E; cases h
  | succ fu ih =>
  intro v1 v2 v3 h E
  have H4 : ∀ (v1 : Int32) (v2 : Int32) (v3 : Int32), f_X1_reachedByAny_4 I P z0 fu v1 v2 v3 = some r → Here X cX1_reachedByAny RX1 5 (some .int) 4 n 4 [some (.inr (.inr (1, z0, 0))), some (.inl v1), some (.inl v2), some (.inl v3), none] [] I P O D n Q := fun _ _ _ b => ih b E
  simp only [f_X1_reachedByAny_4] at h
  refine h_iload_n dX1_reachedByAny_4 rfl ?_
  refine h_aload_n dX1_reachedByAny_5 rfl ?_
  refine g_X1_44 (by omega) dX1_reachedByAny_6 ?_
  obtain ⟨g1, h⟩ := gd_some h
  have w1 := of_decide_eq_true g1
  refine g_X1_56 (by omega) dX1_reachedByAny_9 ?_
  refine h_icmp_ge (tgt := 108) dX1_reachedByAny_12 (by decide) (fun q1 => ?_) (fun q1 => ?_)
  · rw [if_pos q1] at h
    refine h_aload_n dX1_reachedByAny_108 rfl ?_
    refine g_X1_48 (by omega) dX1_reachedByAny_109 ?_
    obtain ⟨g2, h⟩ := gd_some h
    have w2 := of_decide_eq_true g2
    refine g_X1_162 (by omega) dX1_reachedByAny_112 ?_
    refine h_astore_n dX1_reachedByAny_115 (by decide) rfl ?_
    refine h_iconst (0 : Int32) dX1_reachedByAny_116 k_iconst_0 ?_
    refine h_istore dX1_reachedByAny_117 (by decide) rfl ?_
    exact (b_X1_reachedByAny_119 X Q hz0 FU (by omega) h E)
  · rw [if_neg q1] at h
    refine h_iconst (0 : Int32) dX1_reachedByAny_15 k_iconst_0 ?_
    refine h_istore dX1_reachedByAny_16 (by decide) rfl ?_
    exact (b_X1_reachedByAny_18 X Q H4 hz0 FU  h E)
def f_X1_reachedByAny  (I : Mem) (P : PMem) (z0 : Nat) (v1 : Int32) : Option (Int32) :=
  f_X1_reachedByAny_4 I P z0 FU v1 (0 : Int32) (0 : Int32)
theorem b_X1_reachedByAny (X : CX) (Q : State → Prop) {I : Mem} {P : PMem} {O : Nat → Int64} {D : Bool} {n : Nat} {z0 : Nat} {v1 : Int32} {r : (Int32)}  (hz0 : z0 < 2) (h : f_X1_reachedByAny I P z0 v1 = some r) (E : EndR X cX1_reachedByAny RX1 5 (some .int) 4 n (some (.inl r)) I P O D Q) : Here X cX1_reachedByAny RX1 5 (some .int) 4 n 0 [some (.inr (.inr (1, z0, 0))), some (.inl v1), none, none, none] [] I P O D n Q := by
  unfold f_X1_reachedByAny at h
  refine h_iconst (0 : Int32) dX1_reachedByAny_0 k_iconst_0 ?_
  refine h_istore_n dX1_reachedByAny_1 (by decide) rfl ?_
  refine h_iconst (0 : Int32) dX1_reachedByAny_2 k_iconst_0 ?_
  refine h_istore_n dX1_reachedByAny_3 (by decide) rfl ?_
  exact (b_X1_reachedByAny_4 X Q hz0 FU  h E)
theorem m_X1_reachedByAny {I : Mem} {P : PMem} {O : Nat → Int64} {D : Bool} {n : Nat} {z0 : Nat} {v1 : Int32} {r : (Int32)} (hz0 : z0 < 2) (h : f_X1_reachedByAny I P z0 v1 = some r) : MethR yX1_reachedByAny cX1_reachedByAny 5 (some .int) 4 [.inr (.inr (1, z0, 0)), .inl v1] I P O D n (some (.inl r)) I P O D n := meth_R (Nat.le_refl _) (by decide) rfl (Nat.le_of_ble_eq_true rfl) rfl (fun X Q E => b_X1_reachedByAny X Q hz0 h E)
def f_X1_hearAll_121  (P : PMem) (z0 : Nat) : Nat → Mem → Int32 → Option (Mem)
  | 0, _, _ => none
  | fu + 1, I, v1 =>
    gd (decide ((P 1 z0 0 0) < 2)) <|
    if (I 3 (P 1 z0 0 0) 0 13) ≤ v1 then (some I) else ((f_X1_reachedByAny I P z0 v1).bind fun y1 =>
    gd (inb v1 6) <|
    bnd (upd4 I 21 z0 0 v1.toNatClampNeg y1) fun I1' =>
    (f_X1_hearAll_121 P z0 fu) I1' (v1 + (1 : Int32)))
theorem b_X1_hearAll_121 (X : CX) (Q : State → Prop) {P : PMem} {O : Nat → Int64} {D : Bool} {n : Nat} {z0 : Nat} {r : (Mem)}  (hz0 : z0 < 2) : ∀ (fu : Nat) {I : Mem} {v1 : Int32}, f_X1_hearAll_121 P z0 fu I v1 = some r → EndR X cX1_hearAll RX1 4 (none) 5 n none r P O D Q → Here X cX1_hearAll RX1 4 (none) 5 n 121 [some (.inr (.inr (1, z0, 0))), some (.inl v1), none, none] [] I P O D n Q := by
  intro fu
  induction fu with
  | zero => intro I v1 h E; cases h
  | succ fu ih =>
  intro I v1 h E
  have H121 : ∀ (I : Mem) (v1 : Int32), f_X1_hearAll_121 P z0 fu I v1 = some r → Here X cX1_hearAll RX1 4 (none) 5 n 121 [some (.inr (.inr (1, z0, 0))), some (.inl v1), none, none] [] I P O D n Q := fun _ _ b => ih b E
  simp only [f_X1_hearAll_121] at h
  refine h_iload_n dX1_hearAll_121 rfl ?_
  refine h_aload_n dX1_hearAll_122 rfl ?_
  refine g_X1_44 (by omega) dX1_hearAll_123 ?_
  obtain ⟨g1, h⟩ := gd_some h
  have w1 := of_decide_eq_true g1
  refine g_X1_95 (by omega) dX1_hearAll_126 ?_
  refine h_icmp_ge (tgt := 149) dX1_hearAll_129 (by decide) (fun q1 => ?_) (fun q1 => ?_)
  · rw [if_pos q1] at h
    cases h
    exact h_vret dX1_hearAll_149 rfl E
  · rw [if_neg q1] at h
    refine h_aload_n dX1_hearAll_132 rfl ?_
    refine g_X1_28 (by omega) dX1_hearAll_133 ?_
    refine h_iload_n dX1_hearAll_136 rfl ?_
    refine h_aload_n dX1_hearAll_137 rfl ?_
    refine h_iload_n dX1_hearAll_138 rfl ?_
    obtain ⟨y1, hh1, h⟩ := obd_some h
    refine h_cVi [.inl v1] (m_X1_reachedByAny (by omega) hh1) cw_X1_112 dX1_hearAll_139 rfl (ok_1 (by omega)) (by decide) rfl (Or.inr rfl) rfl ?_
    obtain ⟨g2, h⟩ := gd_some h
    obtain ⟨I1', e1, h⟩ := bnd_some h
    refine as_21 (by omega) v1.toNatClampNeg rfl dX1_hearAll_142 g2 ?_
    refine h_nmI e1 ?_
    refine h_iinc (1 : Int32) dX1_hearAll_143 rfl k_iinc_1 (by decide) rfl ?_
    refine h_goto (tgt := 121) dX1_hearAll_146 (by decide) ?_
    exact (H121 _ _ h)
def f_X1_hearAll_59  (P : PMem) (z0 : Nat) : Nat → Mem → Int32 → Option (Mem)
  | 0, _, _ => none
  | fu + 1, I, v1 =>
    if (35 : Int32) ≤ v1 then (f_X1_hearAll_121 P z0 FU I (0 : Int32)) else ((f_X1_nextWhoComes I P z0).bind fun y1 =>
    if y1 = (-1 : Int32) then ((f_X1_hearAll_59 P z0 fu) I (v1 + (1 : Int32))) else (gd (inb y1 5) <|
    bnd (I 25 z0 0 y1.toNatClampNeg) fun x1 =>
    bnd (upd4 I 25 z0 0 y1.toNatClampNeg ((I 25 z0 0 y1.toNatClampNeg) + (1 : Int32))) fun I1' =>
    gd (inb x1 7) <|
    (f_X1_hearIn P z0 I1' (I1' 12 z0 y1.toNatClampNeg x1.toNatClampNeg) y1 (I1' 14 z0 y1.toNatClampNeg x1.toNatClampNeg)).bind fun y2 =>
    (f_X1_hearAll_59 P z0 fu) y2 (v1 + (1 : Int32))))
theorem b_X1_hearAll_59 (X : CX) (Q : State → Prop) {P : PMem} {O : Nat → Int64} {D : Bool} {n : Nat} {z0 : Nat} {r : (Mem)}  (hz0 : z0 < 2) : ∀ (fu : Nat) {I : Mem} {v1 : Int32}, f_X1_hearAll_59 P z0 fu I v1 = some r → EndR X cX1_hearAll RX1 4 (none) 5 n none r P O D Q → Here X cX1_hearAll RX1 4 (none) 5 n 59 [some (.inr (.inr (1, z0, 0))), some (.inl v1), none, none] [] I P O D n Q := by
  intro fu
  induction fu with
  | zero => intro I v1 h E; cases h
  | succ fu ih =>
  intro I v1 h E
  have H59 : ∀ (I : Mem) (v1 : Int32), f_X1_hearAll_59 P z0 fu I v1 = some r → Here X cX1_hearAll RX1 4 (none) 5 n 59 [some (.inr (.inr (1, z0, 0))), some (.inl v1), none, none] [] I P O D n Q := fun _ _ b => ih b E
  simp only [f_X1_hearAll_59] at h
  refine h_iload_n dX1_hearAll_59 rfl ?_
  refine h_bipush (35 : Int32) dX1_hearAll_60 k_bipush_35 ?_
  refine h_icmp_ge (tgt := 119) dX1_hearAll_62 (by decide) (fun q1 => ?_) (fun q1 => ?_)
  · rw [if_pos q1] at h
    refine h_iconst (0 : Int32) dX1_hearAll_119 k_iconst_0 ?_
    refine h_istore_n dX1_hearAll_120 (by decide) rfl ?_
    exact (b_X1_hearAll_121 X Q hz0 FU  h E)
  · rw [if_neg q1] at h
    refine h_aload_n dX1_hearAll_65 rfl ?_
    obtain ⟨y1, hh1, h⟩ := obd_some h
    refine h_cVi [] (m_X1_nextWhoComes (by omega) hh1) cw_X1_104 dX1_hearAll_66 rfl (ok_1 (by omega)) (by decide) rfl (Or.inr rfl) rfl ?_
    refine h_istore_n dX1_hearAll_69 (by decide) rfl ?_
    refine h_iload_n dX1_hearAll_70 rfl ?_
    refine h_iconst (-1 : Int32) dX1_hearAll_71 k_iconst_m1 ?_
    refine h_icmp_eq (tgt := 113) dX1_hearAll_72 (by decide) (fun q2 => ?_) (fun q2 => ?_)
    · rw [if_pos q2] at h
      refine h_iinc (1 : Int32) dX1_hearAll_113 rfl k_iinc_1 (by decide) rfl ?_
      refine h_goto (tgt := 59) dX1_hearAll_116 (by decide) ?_
      exact h_mask [true, true, false, false] (H59 _ _ h)
    · rw [if_neg q2] at h
      refine h_aload_n dX1_hearAll_75 rfl ?_
      refine g_X1_38 (by omega) dX1_hearAll_76 ?_
      refine h_iload_n dX1_hearAll_79 rfl ?_
      obtain ⟨g1, h⟩ := gd_some h
      refine al_25 (by omega) y1.toNatClampNeg rfl dX1_hearAll_80 g1 ?_
      obtain ⟨x1, e1, h⟩ := bnd_some h
      refine h_nmv e1 ?_
      refine h_istore_n dX1_hearAll_81 (by decide) rfl ?_
      refine h_aload_n dX1_hearAll_82 rfl ?_
      refine g_X1_38 (by omega) dX1_hearAll_83 ?_
      refine h_iload_n dX1_hearAll_86 rfl ?_
      refine h_dup2 dX1_hearAll_87 (fun _ => rfl) (fun _ => rfl) ?_
      refine al_25 (by omega) y1.toNatClampNeg rfl dX1_hearAll_88 g1 ?_
      refine h_iconst (1 : Int32) dX1_hearAll_89 k_iconst_1 ?_
      refine h_iadd dX1_hearAll_90 ?_
      obtain ⟨I1', e2, h⟩ := bnd_some h
      refine as_25 (by omega) y1.toNatClampNeg rfl dX1_hearAll_91 g1 ?_
      refine h_nmI e2 ?_
      refine h_aload_n dX1_hearAll_92 rfl ?_
      refine h_aload_n dX1_hearAll_93 rfl ?_
      refine g_X1_11 (by omega) dX1_hearAll_94 ?_
      refine h_iload_n dX1_hearAll_97 rfl ?_
      refine ag_11 (by omega) y1.toNatClampNeg rfl dX1_hearAll_98 g1 ?_
      have w1 := inb_lt g1
      refine h_iload_n dX1_hearAll_99 rfl ?_
      obtain ⟨g2, h⟩ := gd_some h
      refine al_12 (by omega) (by omega) x1.toNatClampNeg rfl dX1_hearAll_100 g2 ?_
      refine h_iload_n dX1_hearAll_101 rfl ?_
      refine h_aload_n dX1_hearAll_102 rfl ?_
      refine g_X1_16 (by omega) dX1_hearAll_103 ?_
      refine h_iload_n dX1_hearAll_106 rfl ?_
      refine ag_13 (by omega) y1.toNatClampNeg rfl dX1_hearAll_107 g1 ?_
      refine h_iload_n dX1_hearAll_108 rfl ?_
      refine al_14 (by omega) (by omega) x1.toNatClampNeg rfl dX1_hearAll_109 g2 ?_
      obtain ⟨y2, hh2, h⟩ := obd_some h
      refine h_cVv [.inl (I1' 12 z0 y1.toNatClampNeg x1.toNatClampNeg), .inl y1, .inl (I1' 14 z0 y1.toNatClampNeg x1.toNatClampNeg)] (m_X1_hearIn (by omega) hh2) cw_X1_108 dX1_hearAll_110 rfl (ok_1 (by omega)) (by decide) rfl (Or.inr rfl) rfl ?_
      refine h_iinc (1 : Int32) dX1_hearAll_113 rfl k_iinc_1 (by decide) rfl ?_
      refine h_goto (tgt := 59) dX1_hearAll_116 (by decide) ?_
      exact h_mask [true, true, false, false] (H59 _ _ h)
def f_X1_hearAll_2  (P : PMem) (z0 : Nat) : Nat → Mem → Int32 → Option (Mem)
  | 0, _, _ => none
  | fu + 1, I, v1 =>
    gd (decide ((P 1 z0 0 0) < 2)) <|
    if (I 3 (P 1 z0 0 0) 0 13) ≤ v1 then ((f_J7_fill_53178 25 z0 0 I (0 : Int32)).bind fun y1 =>
    f_X1_hearAll_59 P z0 FU y1 (0 : Int32)) else (gd (inb v1 6) <|
    (f_J7_fill_53178 16 z0 v1.toNatClampNeg I (-1 : Int32)).bind fun y2 =>
    (f_J7_fill_53178 18 z0 v1.toNatClampNeg y2 (-1 : Int32)).bind fun y3 =>
    (f_J7_fill_53178 20 z0 v1.toNatClampNeg y3 (-1 : Int32)).bind fun y4 =>
    (f_X1_hearAll_2 P z0 fu) y4 (v1 + (1 : Int32)))
theorem b_X1_hearAll_2 (X : CX) (Q : State → Prop) {P : PMem} {O : Nat → Int64} {D : Bool} {n : Nat} {z0 : Nat} {r : (Mem)}  (hz0 : z0 < 2) : ∀ (fu : Nat) {I : Mem} {v1 : Int32}, f_X1_hearAll_2 P z0 fu I v1 = some r → EndR X cX1_hearAll RX1 4 (none) 5 n none r P O D Q → Here X cX1_hearAll RX1 4 (none) 5 n 2 [some (.inr (.inr (1, z0, 0))), some (.inl v1), none, none] [] I P O D n Q := by
  intro fu
  induction fu with
  | zero => intro I v1 h E; cases h
  | succ fu ih =>
  intro I v1 h E
  have H2 : ∀ (I : Mem) (v1 : Int32), f_X1_hearAll_2 P z0 fu I v1 = some r → Here X cX1_hearAll RX1 4 (none) 5 n 2 [some (.inr (.inr (1, z0, 0))), some (.inl v1), none, none] [] I P O D n Q := fun _ _ b => ih b E
  simp only [f_X1_hearAll_2] at h
  refine h_iload_n dX1_hearAll_2 rfl ?_
  refine h_aload_n dX1_hearAll_3 rfl ?_
  refine g_X1_44 (by omega) dX1_hearAll_4 ?_
  obtain ⟨g1, h⟩ := gd_some h
  have w1 := of_decide_eq_true g1
  refine g_X1_95 (by omega) dX1_hearAll_7 ?_
  refine h_icmp_ge (tgt := 49) dX1_hearAll_10 (by decide) (fun q1 => ?_) (fun q1 => ?_)
  · rw [if_pos q1] at h
    refine h_aload_n dX1_hearAll_49 rfl ?_
    refine g_X1_38 (by omega) dX1_hearAll_50 ?_
    refine h_iconst (0 : Int32) dX1_hearAll_53 k_iconst_0 ?_
    obtain ⟨y1, hh1, h⟩ := obd_some h
    refine h_cSv [.inr (.inr (25, z0, 0)), .inl (0 : Int32)] (m_J7_fill_53178 (ia_25 (by omega)) hh1) cs_X1_98 dX1_hearAll_54 rfl (by decide) rfl (Or.inr rfl) rfl ?_
    refine h_iconst (0 : Int32) dX1_hearAll_57 k_iconst_0 ?_
    refine h_istore_n dX1_hearAll_58 (by decide) rfl ?_
    exact (b_X1_hearAll_59 X Q hz0 FU  h E)
  · rw [if_neg q1] at h
    refine h_aload_n dX1_hearAll_13 rfl ?_
    refine g_X1_19 (by omega) dX1_hearAll_14 ?_
    refine h_iload_n dX1_hearAll_17 rfl ?_
    obtain ⟨g2, h⟩ := gd_some h
    refine ag_15 (by omega) v1.toNatClampNeg rfl dX1_hearAll_18 g2 ?_
    have w2 := inb_lt g2
    refine h_iconst (-1 : Int32) dX1_hearAll_19 k_iconst_m1 ?_
    obtain ⟨y2, hh2, h⟩ := obd_some h
    refine h_cSv [.inr (.inr (16, z0, v1.toNatClampNeg)), .inl (-1 : Int32)] (m_J7_fill_53178 (ia_16 (by omega) (by omega)) hh2) cs_X1_98 dX1_hearAll_20 rfl (by decide) rfl (Or.inr rfl) rfl ?_
    refine h_aload_n dX1_hearAll_23 rfl ?_
    refine g_X1_22 (by omega) dX1_hearAll_24 ?_
    refine h_iload_n dX1_hearAll_27 rfl ?_
    refine ag_17 (by omega) v1.toNatClampNeg rfl dX1_hearAll_28 g2 ?_
    refine h_iconst (-1 : Int32) dX1_hearAll_29 k_iconst_m1 ?_
    obtain ⟨y3, hh3, h⟩ := obd_some h
    refine h_cSv [.inr (.inr (18, z0, v1.toNatClampNeg)), .inl (-1 : Int32)] (m_J7_fill_53178 (ia_18 (by omega) (by omega)) hh3) cs_X1_98 dX1_hearAll_30 rfl (by decide) rfl (Or.inr rfl) rfl ?_
    refine h_aload_n dX1_hearAll_33 rfl ?_
    refine g_X1_25 (by omega) dX1_hearAll_34 ?_
    refine h_iload_n dX1_hearAll_37 rfl ?_
    refine ag_19 (by omega) v1.toNatClampNeg rfl dX1_hearAll_38 g2 ?_
    refine h_iconst (-1 : Int32) dX1_hearAll_39 k_iconst_m1 ?_
    obtain ⟨y4, hh4, h⟩ := obd_some h
    refine h_cSv [.inr (.inr (20, z0, v1.toNatClampNeg)), .inl (-1 : Int32)] (m_J7_fill_53178 (ia_20 (by omega) (by omega)) hh4) cs_X1_98 dX1_hearAll_40 rfl (by decide) rfl (Or.inr rfl) rfl ?_
    refine h_iinc (1 : Int32) dX1_hearAll_43 rfl k_iinc_1 (by decide) rfl ?_
    refine h_goto (tgt := 2) dX1_hearAll_46 (by decide) ?_
    exact (H2 _ _ h)
def f_X1_hearAll  (P : PMem) (z0 : Nat) (I : Mem) : Option (Mem) :=
  f_X1_hearAll_2 P z0 FU I (0 : Int32)
theorem b_X1_hearAll (X : CX) (Q : State → Prop) {I : Mem} {P : PMem} {O : Nat → Int64} {D : Bool} {n : Nat} {z0 : Nat} {r : (Mem)}  (hz0 : z0 < 2) (h : f_X1_hearAll P z0 I = some r) (E : EndR X cX1_hearAll RX1 4 (none) 5 n none r P O D Q) : Here X cX1_hearAll RX1 4 (none) 5 n 0 [some (.inr (.inr (1, z0, 0))), none, none, none] [] I P O D n Q := by
  unfold f_X1_hearAll at h
  refine h_iconst (0 : Int32) dX1_hearAll_0 k_iconst_0 ?_
  refine h_istore_n dX1_hearAll_1 (by decide) rfl ?_
  exact (b_X1_hearAll_2 X Q hz0 FU  h E)
theorem m_X1_hearAll {I : Mem} {P : PMem} {O : Nat → Int64} {D : Bool} {n : Nat} {z0 : Nat} {r : (Mem)} (hz0 : z0 < 2) (h : f_X1_hearAll P z0 I = some r) : MethR yX1_hearAll cX1_hearAll 4 (none) 5 [.inr (.inr (1, z0, 0))] I P O D n none r P O D n := meth_R (Nat.le_refl _) (by decide) rfl (Nat.le_of_ble_eq_true rfl) rfl (fun X Q E => b_X1_hearAll X Q hz0 h E)
def f_X1_townOn_2  (I : Mem) (P : PMem) (z0 : Nat) : Nat → Int32 → Int32 → Int32 → Option (Int32)
  | 0, _, _, _ => none
  | fu + 1, v1, v2, v3 =>
    gd (decide ((P 1 z0 0 0) < 2)) <|
    gd (inb v1 5) <|
    if (I 36 (P 1 z0 0 0) 0 v1.toNatClampNeg) ≤ v3 then (some (-1 : Int32)) else (gd (inb v3 7) <|
    if (I 14 z0 v1.toNatClampNeg v3.toNatClampNeg) = v2 then (some (I 12 z0 v1.toNatClampNeg v3.toNatClampNeg)) else ((f_X1_townOn_2 I P z0 fu) v1 v2 (v3 + (1 : Int32))))
theorem b_X1_townOn_2 (X : CX) (Q : State → Prop) {I : Mem} {P : PMem} {O : Nat → Int64} {D : Bool} {n : Nat} {z0 : Nat} {r : (Int32)}  (hz0 : z0 < 2) : ∀ (fu : Nat) {v1 : Int32} {v2 : Int32} {v3 : Int32}, f_X1_townOn_2 I P z0 fu v1 v2 v3 = some r → EndR X cX1_townOn RX1 4 (some .int) 2 n (some (.inl r)) I P O D Q → Here X cX1_townOn RX1 4 (some .int) 2 n 2 [some (.inr (.inr (1, z0, 0))), some (.inl v1), some (.inl v2), some (.inl v3)] [] I P O D n Q := by
  intro fu
  induction fu with
  | zero => intro v1 v2 v3 h E; cases h
  | succ fu ih =>
  intro v1 v2 v3 h E
  have H2 : ∀ (v1 : Int32) (v2 : Int32) (v3 : Int32), f_X1_townOn_2 I P z0 fu v1 v2 v3 = some r → Here X cX1_townOn RX1 4 (some .int) 2 n 2 [some (.inr (.inr (1, z0, 0))), some (.inl v1), some (.inl v2), some (.inl v3)] [] I P O D n Q := fun _ _ _ b => ih b E
  simp only [f_X1_townOn_2] at h
  refine h_iload_n dX1_townOn_2 rfl ?_
  refine h_aload_n dX1_townOn_3 rfl ?_
  refine g_X1_44 (by omega) dX1_townOn_4 ?_
  obtain ⟨g1, h⟩ := gd_some h
  have w1 := of_decide_eq_true g1
  refine g_X1_73 (by omega) dX1_townOn_7 ?_
  refine h_iload_n dX1_townOn_10 rfl ?_
  obtain ⟨g2, h⟩ := gd_some h
  refine al_36 (by omega) v1.toNatClampNeg rfl dX1_townOn_11 g2 ?_
  refine h_icmp_ge (tgt := 42) dX1_townOn_12 (by decide) (fun q1 => ?_) (fun q1 => ?_)
  · rw [if_pos q1] at h
    refine h_iconst (-1 : Int32) dX1_townOn_42 k_iconst_m1 ?_
    cases h
    exact h_iret dX1_townOn_43 rfl E
  · rw [if_neg q1] at h
    refine h_aload_n dX1_townOn_15 rfl ?_
    refine g_X1_16 (by omega) dX1_townOn_16 ?_
    refine h_iload_n dX1_townOn_19 rfl ?_
    refine ag_13 (by omega) v1.toNatClampNeg rfl dX1_townOn_20 g2 ?_
    have w2 := inb_lt g2
    refine h_iload_n dX1_townOn_21 rfl ?_
    obtain ⟨g3, h⟩ := gd_some h
    refine al_14 (by omega) (by omega) v3.toNatClampNeg rfl dX1_townOn_22 g3 ?_
    refine h_iload_n dX1_townOn_23 rfl ?_
    refine h_icmp_ne (tgt := 36) dX1_townOn_24 (by decide) (fun q2 => ?_) (fun q2 => ?_)
    · rw [if_neg q2] at h
      refine h_iinc (1 : Int32) dX1_townOn_36 rfl k_iinc_1 (by decide) rfl ?_
      refine h_goto (tgt := 2) dX1_townOn_39 (by decide) ?_
      exact (H2 _ _ _ h)
    · rw [if_pos q2] at h
      refine h_aload_n dX1_townOn_27 rfl ?_
      refine g_X1_11 (by omega) dX1_townOn_28 ?_
      refine h_iload_n dX1_townOn_31 rfl ?_
      refine ag_11 (by omega) v1.toNatClampNeg rfl dX1_townOn_32 g2 ?_
      refine h_iload_n dX1_townOn_33 rfl ?_
      refine al_12 (by omega) (by omega) v3.toNatClampNeg rfl dX1_townOn_34 g3 ?_
      cases h
      exact h_iret dX1_townOn_35 rfl E
def f_X1_townOn  (I : Mem) (P : PMem) (z0 : Nat) (v1 : Int32) (v2 : Int32) : Option (Int32) :=
  f_X1_townOn_2 I P z0 FU v1 v2 (0 : Int32)
theorem b_X1_townOn (X : CX) (Q : State → Prop) {I : Mem} {P : PMem} {O : Nat → Int64} {D : Bool} {n : Nat} {z0 : Nat} {v1 : Int32} {v2 : Int32} {r : (Int32)}  (hz0 : z0 < 2) (h : f_X1_townOn I P z0 v1 v2 = some r) (E : EndR X cX1_townOn RX1 4 (some .int) 2 n (some (.inl r)) I P O D Q) : Here X cX1_townOn RX1 4 (some .int) 2 n 0 [some (.inr (.inr (1, z0, 0))), some (.inl v1), some (.inl v2), none] [] I P O D n Q := by
  unfold f_X1_townOn at h
  refine h_iconst (0 : Int32) dX1_townOn_0 k_iconst_0 ?_
  refine h_istore_n dX1_townOn_1 (by decide) rfl ?_
  exact (b_X1_townOn_2 X Q hz0 FU  h E)
theorem m_X1_townOn {I : Mem} {P : PMem} {O : Nat → Int64} {D : Bool} {n : Nat} {z0 : Nat} {v1 : Int32} {v2 : Int32} {r : (Int32)} (hz0 : z0 < 2) (h : f_X1_townOn I P z0 v1 v2 = some r) : MethR yX1_townOn cX1_townOn 4 (some .int) 2 [.inr (.inr (1, z0, 0)), .inl v1, .inl v2] I P O D n (some (.inl r)) I P O D n := meth_R (Nat.le_refl _) (by decide) rfl (Nat.le_of_ble_eq_true rfl) rfl (fun X Q E => b_X1_townOn X Q hz0 h E)
