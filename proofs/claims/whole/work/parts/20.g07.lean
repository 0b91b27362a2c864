theorem dX7_settledCourt_0 : decode cX7_settledCourt 0 = .ok (.aload_n 0, 1) := by decide +kernel
theorem dX7_settledCourt_1 : decode cX7_settledCourt 1 = .ok (.getfield 94, 3) := by decide +kernel
theorem dX7_settledCourt_4 : decode cX7_settledCourt 4 = .ok (.ifCond .ne 30, 3) := by decide +kernel
theorem dX7_settledCourt_7 : decode cX7_settledCourt 7 = .ok (.aload_n 0, 1) := by decide +kernel
theorem dX7_settledCourt_8 : decode cX7_settledCourt 8 = .ok (.getfield 47, 3) := by decide +kernel
theorem dX7_settledCourt_11 : decode cX7_settledCourt 11 = .ok (.aload_n 0, 1) := by decide +kernel
theorem dX7_settledCourt_12 : decode cX7_settledCourt 12 = .ok (.getfield 16, 3) := by decide +kernel
theorem dX7_settledCourt_15 : decode cX7_settledCourt 15 = .ok (.aload_n 0, 1) := by decide +kernel
theorem dX7_settledCourt_16 : decode cX7_settledCourt 16 = .ok (.getfield 35, 3) := by decide +kernel
theorem dX7_settledCourt_19 : decode cX7_settledCourt 19 = .ok (.invokevirtual 247, 3) := by decide +kernel
theorem dX7_settledCourt_22 : decode cX7_settledCourt 22 = .ok (.aload_n 0, 1) := by decide +kernel
theorem dX7_settledCourt_23 : decode cX7_settledCourt 23 = .ok (.getfield 47, 3) := by decide +kernel
theorem dX7_settledCourt_26 : decode cX7_settledCourt 26 = .ok (.invokevirtual 263, 3) := by decide +kernel
theorem dX7_settledCourt_29 : decode cX7_settledCourt 29 = .ok (.aload_n 0, 1) := by decide +kernel
theorem dX7_settledCourt_30 : decode cX7_settledCourt 30 = .ok (.iconst 1, 1) := by decide +kernel
theorem dX7_settledCourt_31 : decode cX7_settledCourt 31 = .ok (.putfield 94, 3) := by decide +kernel
theorem dX7_settledCourt_34 : decode cX7_settledCourt 34 = .ok (.aload_n 0, 1) := by decide +kernel
theorem dX7_settledCourt_35 : decode cX7_settledCourt 35 = .ok (.getfield 47, 3) := by decide +kernel
theorem dX7_settledCourt_38 : decode cX7_settledCourt 38 = .ok (.areturn, 1) := by decide +kernel
theorem dX7_count_0 : decode cX7_count 0 = .ok (.iload_n 1, 1) := by decide +kernel
theorem dX7_count_1 : decode cX7_count 1 = .ok (.tableswitch 225 0 15 #[79, 87, 95, 103, 111, 119, 127, 138, 149, 160, 168, 179, 190, 195, 205, 215], 79) := by decide +kernel
theorem dX7_count_80 : decode cX7_count 80 = .ok (.aload_n 0, 1) := by decide +kernel
theorem dX7_count_81 : decode cX7_count 81 = .ok (.getfield 16, 3) := by decide +kernel
theorem dX7_count_84 : decode cX7_count 84 = .ok (.getfield 97, 3) := by decide +kernel
theorem dX7_count_87 : decode cX7_count 87 = .ok (.ireturn, 1) := by decide +kernel
theorem dX7_count_88 : decode cX7_count 88 = .ok (.aload_n 0, 1) := by decide +kernel
theorem dX7_count_89 : decode cX7_count 89 = .ok (.getfield 16, 3) := by decide +kernel
theorem dX7_count_92 : decode cX7_count 92 = .ok (.getfield 100, 3) := by decide +kernel
theorem dX7_count_95 : decode cX7_count 95 = .ok (.ireturn, 1) := by decide +kernel
theorem dX7_count_96 : decode cX7_count 96 = .ok (.aload_n 0, 1) := by decide +kernel
theorem dX7_count_97 : decode cX7_count 97 = .ok (.getfield 16, 3) := by decide +kernel
theorem dX7_count_100 : decode cX7_count 100 = .ok (.invokevirtual 103, 3) := by decide +kernel
theorem dX7_count_103 : decode cX7_count 103 = .ok (.ireturn, 1) := by decide +kernel
theorem dX7_count_104 : decode cX7_count 104 = .ok (.aload_n 0, 1) := by decide +kernel
theorem dX7_count_105 : decode cX7_count 105 = .ok (.getfield 16, 3) := by decide +kernel
theorem dX7_count_108 : decode cX7_count 108 = .ok (.getfield 107, 3) := by decide +kernel
theorem dX7_count_111 : decode cX7_count 111 = .ok (.ireturn, 1) := by decide +kernel
theorem dX7_count_112 : decode cX7_count 112 = .ok (.aload_n 0, 1) := by decide +kernel
theorem dX7_count_113 : decode cX7_count 113 = .ok (.getfield 16, 3) := by decide +kernel
theorem dX7_count_116 : decode cX7_count 116 = .ok (.getfield 110, 3) := by decide +kernel
theorem dX7_count_119 : decode cX7_count 119 = .ok (.ireturn, 1) := by decide +kernel
theorem dX7_count_120 : decode cX7_count 120 = .ok (.aload_n 0, 1) := by decide +kernel
theorem dX7_count_121 : decode cX7_count 121 = .ok (.getfield 35, 3) := by decide +kernel
theorem dX7_count_124 : decode cX7_count 124 = .ok (.getfield 113, 3) := by decide +kernel
theorem dX7_count_127 : decode cX7_count 127 = .ok (.ireturn, 1) := by decide +kernel
theorem dX7_count_128 : decode cX7_count 128 = .ok (.aload_n 0, 1) := by decide +kernel
theorem dX7_count_129 : decode cX7_count 129 = .ok (.getfield 35, 3) := by decide +kernel
theorem dX7_count_132 : decode cX7_count 132 = .ok (.getfield 116, 3) := by decide +kernel
theorem dX7_count_135 : decode cX7_count 135 = .ok (.getfield 120, 3) := by decide +kernel
theorem dX7_count_138 : decode cX7_count 138 = .ok (.ireturn, 1) := by decide +kernel
theorem dX7_count_139 : decode cX7_count 139 = .ok (.aload_n 0, 1) := by decide +kernel
theorem dX7_count_140 : decode cX7_count 140 = .ok (.getfield 35, 3) := by decide +kernel
theorem dX7_count_143 : decode cX7_count 143 = .ok (.getfield 125, 3) := by decide +kernel
theorem dX7_count_146 : decode cX7_count 146 = .ok (.getfield 120, 3) := by decide +kernel
theorem dX7_count_149 : decode cX7_count 149 = .ok (.ireturn, 1) := by decide +kernel
theorem dX7_count_150 : decode cX7_count 150 = .ok (.aload_n 0, 1) := by decide +kernel
theorem dX7_count_151 : decode cX7_count 151 = .ok (.getfield 35, 3) := by decide +kernel
theorem dX7_count_154 : decode cX7_count 154 = .ok (.getfield 128, 3) := by decide +kernel
theorem dX7_count_157 : decode cX7_count 157 = .ok (.getfield 120, 3) := by decide +kernel
theorem dX7_count_160 : decode cX7_count 160 = .ok (.ireturn, 1) := by decide +kernel
theorem dX7_count_161 : decode cX7_count 161 = .ok (.aload_n 0, 1) := by decide +kernel
theorem dX7_count_162 : decode cX7_count 162 = .ok (.invokevirtual 131, 3) := by decide +kernel
theorem dX7_count_165 : decode cX7_count 165 = .ok (.invokevirtual 135, 3) := by decide +kernel
theorem dX7_count_168 : decode cX7_count 168 = .ok (.ireturn, 1) := by decide +kernel
theorem dX7_count_169 : decode cX7_count 169 = .ok (.aload_n 0, 1) := by decide +kernel
theorem dX7_count_170 : decode cX7_count 170 = .ok (.getfield 35, 3) := by decide +kernel
theorem dX7_count_173 : decode cX7_count 173 = .ok (.getfield 138, 3) := by decide +kernel
theorem dX7_count_176 : decode cX7_count 176 = .ok (.getfield 120, 3) := by decide +kernel
theorem dX7_count_179 : decode cX7_count 179 = .ok (.ireturn, 1) := by decide +kernel
theorem dX7_count_180 : decode cX7_count 180 = .ok (.aload_n 0, 1) := by decide +kernel
theorem dX7_count_181 : decode cX7_count 181 = .ok (.getfield 35, 3) := by decide +kernel
theorem dX7_count_184 : decode cX7_count 184 = .ok (.getfield 141, 3) := by decide +kernel
theorem dX7_count_187 : decode cX7_count 187 = .ok (.getfield 120, 3) := by decide +kernel
theorem dX7_count_190 : decode cX7_count 190 = .ok (.ireturn, 1) := by decide +kernel
theorem dX7_count_191 : decode cX7_count 191 = .ok (.aload_n 0, 1) := by decide +kernel
theorem dX7_count_192 : decode cX7_count 192 = .ok (.getfield 58, 3) := by decide +kernel
theorem dX7_count_195 : decode cX7_count 195 = .ok (.ireturn, 1) := by decide +kernel
theorem dX7_count_196 : decode cX7_count 196 = .ok (.aload_n 0, 1) := by decide +kernel
theorem dX7_count_197 : decode cX7_count 197 = .ok (.getfield 35, 3) := by decide +kernel
theorem dX7_count_200 : decode cX7_count 200 = .ok (.getfield 82, 3) := by decide +kernel
theorem dX7_count_203 : decode cX7_count 203 = .ok (.iconst 0, 1) := by decide +kernel
theorem dX7_count_204 : decode cX7_count 204 = .ok (.iaload, 1) := by decide +kernel
theorem dX7_count_205 : decode cX7_count 205 = .ok (.ireturn, 1) := by decide +kernel
theorem dX7_count_206 : decode cX7_count 206 = .ok (.aload_n 0, 1) := by decide +kernel
theorem dX7_count_207 : decode cX7_count 207 = .ok (.getfield 35, 3) := by decide +kernel
theorem dX7_count_210 : decode cX7_count 210 = .ok (.getfield 82, 3) := by decide +kernel
theorem dX7_count_213 : decode cX7_count 213 = .ok (.iconst 1, 1) := by decide +kernel
theorem dX7_count_214 : decode cX7_count 214 = .ok (.iaload, 1) := by decide +kernel
theorem dX7_count_215 : decode cX7_count 215 = .ok (.ireturn, 1) := by decide +kernel
theorem dX7_count_216 : decode cX7_count 216 = .ok (.aload_n 0, 1) := by decide +kernel
theorem dX7_count_217 : decode cX7_count 217 = .ok (.getfield 35, 3) := by decide +kernel
theorem dX7_count_220 : decode cX7_count 220 = .ok (.getfield 82, 3) := by decide +kernel
theorem dX7_count_223 : decode cX7_count 223 = .ok (.iconst 2, 1) := by decide +kernel
theorem dX7_count_224 : decode cX7_count 224 = .ok (.iaload, 1) := by decide +kernel
theorem dX7_count_225 : decode cX7_count 225 = .ok (.ireturn, 1) := by decide +kernel
theorem dX7_count_226 : decode cX7_count 226 = .ok (.new 144, 3) := by decide +kernel
theorem dX7_count_229 : decode cX7_count 229 = .ok (.dup, 1) := by decide +kernel
theorem dX7_count_230 : decode cX7_count 230 = .ok (.ldc 146, 2) := by decide +kernel
theorem dX7_count_232 : decode cX7_count 232 = .ok (.invokespecial 148, 3) := by decide +kernel
theorem dX7_count_235 : decode cX7_count 235 = .ok (.athrow, 1) := by decide +kernel
theorem dX7_requireTown_0 : decode cX7_requireTown 0 = .ok (.iload_n 1, 1) := by decide +kernel
theorem dX7_requireTown_1 : decode cX7_requireTown 1 = .ok (.ifCond .lt 14, 3) := by decide +kernel
theorem dX7_requireTown_4 : decode cX7_requireTown 4 = .ok (.iload_n 1, 1) := by decide +kernel
theorem dX7_requireTown_5 : decode cX7_requireTown 5 = .ok (.aload_n 0, 1) := by decide +kernel
theorem dX7_requireTown_6 : decode cX7_requireTown 6 = .ok (.getfield 16, 3) := by decide +kernel
theorem dX7_requireTown_9 : decode cX7_requireTown 9 = .ok (.getfield 97, 3) := by decide +kernel
theorem dX7_requireTown_12 : decode cX7_requireTown 12 = .ok (.if_icmp .lt 14, 3) := by decide +kernel
theorem dX7_requireTown_15 : decode cX7_requireTown 15 = .ok (.new 144, 3) := by decide +kernel
theorem dX7_requireTown_18 : decode cX7_requireTown 18 = .ok (.dup, 1) := by decide +kernel
theorem dX7_requireTown_19 : decode cX7_requireTown 19 = .ok (.ldc_w 318, 3) := by decide +kernel
theorem dX7_requireTown_22 : decode cX7_requireTown 22 = .ok (.invokespecial 148, 3) := by decide +kernel
theorem dX7_requireTown_25 : decode cX7_requireTown 25 = .ok (.athrow, 1) := by decide +kernel
theorem dX7_requireTown_26 : decode cX7_requireTown 26 = .ok (.return_, 1) := by decide +kernel
theorem dX7_isOutside_0 : decode cX7_isOutside 0 = .ok (.iload_n 0, 1) := by decide +kernel
theorem dX7_isOutside_1 : decode cX7_isOutside 1 = .ok (.ifCond .lt 8, 3) := by decide +kernel
theorem dX7_isOutside_4 : decode cX7_isOutside 4 = .ok (.iload_n 0, 1) := by decide +kernel
theorem dX7_isOutside_5 : decode cX7_isOutside 5 = .ok (.iload_n 1, 1) := by decide +kernel
theorem dX7_isOutside_6 : decode cX7_isOutside 6 = .ok (.if_icmp .le 7, 3) := by decide +kernel
theorem dX7_isOutside_9 : decode cX7_isOutside 9 = .ok (.iconst 1, 1) := by decide +kernel
theorem dX7_isOutside_10 : decode cX7_isOutside 10 = .ok (.goto 4, 3) := by decide +kernel
theorem dX7_isOutside_13 : decode cX7_isOutside 13 = .ok (.iconst 0, 1) := by decide +kernel
theorem dX7_isOutside_14 : decode cX7_isOutside 14 = .ok (.ireturn, 1) := by decide +kernel
theorem dX7_requireWhat_0 : decode cX7_requireWhat 0 = .ok (.iload_n 0, 1) := by decide +kernel
theorem dX7_requireWhat_1 : decode cX7_requireWhat 1 = .ok (.iload_n 1, 1) := by decide +kernel
theorem dX7_requireWhat_2 : decode cX7_requireWhat 2 = .ok (.invokestatic 226, 3) := by decide +kernel
theorem dX7_requireWhat_5 : decode cX7_requireWhat 5 = .ok (.ifCond .eq 14, 3) := by decide +kernel
theorem dX7_requireWhat_8 : decode cX7_requireWhat 8 = .ok (.new 144, 3) := by decide +kernel
theorem dX7_requireWhat_11 : decode cX7_requireWhat 11 = .ok (.dup, 1) := by decide +kernel
theorem dX7_requireWhat_12 : decode cX7_requireWhat 12 = .ok (.ldc_w 324, 3) := by decide +kernel
theorem dX7_requireWhat_15 : decode cX7_requireWhat 15 = .ok (.invokespecial 148, 3) := by decide +kernel
theorem dX7_requireWhat_18 : decode cX7_requireWhat 18 = .ok (.athrow, 1) := by decide +kernel
theorem dX7_requireWhat_19 : decode cX7_requireWhat 19 = .ok (.return_, 1) := by decide +kernel
theorem dX7_far_0 : decode cX7_far 0 = .ok (.aload_n 0, 1) := by decide +kernel
theorem dX7_far_1 : decode cX7_far 1 = .ok (.iload_n 1, 1) := by decide +kernel
theorem dX7_far_2 : decode cX7_far 2 = .ok (.invokevirtual 149, 3) := by decide +kernel
theorem dX7_far_5 : decode cX7_far 5 = .ok (.aload_n 0, 1) := by decide +kernel
theorem dX7_far_6 : decode cX7_far 6 = .ok (.iload_n 2, 1) := by decide +kernel
theorem dX7_far_7 : decode cX7_far 7 = .ok (.invokevirtual 149, 3) := by decide +kernel
theorem dX7_far_10 : decode cX7_far 10 = .ok (.iload_n 3, 1) := by decide +kernel
theorem dX7_far_11 : decode cX7_far 11 = .ok (.iconst 1, 1) := by decide +kernel
theorem dX7_far_12 : decode cX7_far 12 = .ok (.invokestatic 152, 3) := by decide +kernel
theorem dX7_far_15 : decode cX7_far 15 = .ok (.iload_n 3, 1) := by decide +kernel
theorem dX7_far_16 : decode cX7_far 16 = .ok (.ifCond .ne 17, 3) := by decide +kernel
theorem dX7_far_19 : decode cX7_far 19 = .ok (.aload_n 0, 1) := by decide +kernel
theorem dX7_far_20 : decode cX7_far 20 = .ok (.getfield 16, 3) := by decide +kernel
theorem dX7_far_23 : decode cX7_far 23 = .ok (.getfield 156, 3) := by decide +kernel
theorem dX7_far_26 : decode cX7_far 26 = .ok (.iload_n 1, 1) := by decide +kernel
theorem dX7_far_27 : decode cX7_far 27 = .ok (.aaload, 1) := by decide +kernel
theorem dX7_far_28 : decode cX7_far 28 = .ok (.iload_n 2, 1) := by decide +kernel
theorem dX7_far_29 : decode cX7_far 29 = .ok (.iaload, 1) := by decide +kernel
theorem dX7_far_30 : decode cX7_far 30 = .ok (.goto 14, 3) := by decide +kernel
theorem dX7_far_33 : decode cX7_far 33 = .ok (.aload_n 0, 1) := by decide +kernel
theorem dX7_far_34 : decode cX7_far 34 = .ok (.getfield 16, 3) := by decide +kernel
theorem dX7_far_37 : decode cX7_far 37 = .ok (.getfield 160, 3) := by decide +kernel
theorem dX7_far_40 : decode cX7_far 40 = .ok (.iload_n 1, 1) := by decide +kernel
theorem dX7_far_41 : decode cX7_far 41 = .ok (.aaload, 1) := by decide +kernel
theorem dX7_far_42 : decode cX7_far 42 = .ok (.iload_n 2, 1) := by decide +kernel
theorem dX7_far_43 : decode cX7_far 43 = .ok (.iaload, 1) := by decide +kernel
theorem dX7_far_44 : decode cX7_far 44 = .ok (.ireturn, 1) := by decide +kernel
theorem dX7_requireJudge_0 : decode cX7_requireJudge 0 = .ok (.iload_n 1, 1) := by decide +kernel
theorem dX7_requireJudge_1 : decode cX7_requireJudge 1 = .ok (.ifCond .lt 14, 3) := by decide +kernel
theorem dX7_requireJudge_4 : decode cX7_requireJudge 4 = .ok (.iload_n 1, 1) := by decide +kernel
theorem dX7_requireJudge_5 : decode cX7_requireJudge 5 = .ok (.aload_n 0, 1) := by decide +kernel
theorem dX7_requireJudge_6 : decode cX7_requireJudge 6 = .ok (.getfield 16, 3) := by decide +kernel
theorem dX7_requireJudge_9 : decode cX7_requireJudge 9 = .ok (.getfield 107, 3) := by decide +kernel
theorem dX7_requireJudge_12 : decode cX7_requireJudge 12 = .ok (.if_icmp .lt 14, 3) := by decide +kernel
theorem dX7_requireJudge_15 : decode cX7_requireJudge 15 = .ok (.new 144, 3) := by decide +kernel
theorem dX7_requireJudge_18 : decode cX7_requireJudge 18 = .ok (.dup, 1) := by decide +kernel
theorem dX7_requireJudge_19 : decode cX7_requireJudge 19 = .ok (.ldc_w 320, 3) := by decide +kernel
theorem dX7_requireJudge_22 : decode cX7_requireJudge 22 = .ok (.invokespecial 148, 3) := by decide +kernel
theorem dX7_requireJudge_25 : decode cX7_requireJudge 25 = .ok (.athrow, 1) := by decide +kernel
theorem dX7_requireJudge_26 : decode cX7_requireJudge 26 = .ok (.return_, 1) := by decide +kernel
theorem dX7_judge_0 : decode cX7_judge 0 = .ok (.aload_n 0, 1) := by decide +kernel
theorem dX7_judge_1 : decode cX7_judge 1 = .ok (.iload_n 1, 1) := by decide +kernel
theorem dX7_judge_2 : decode cX7_judge 2 = .ok (.invokevirtual 163, 3) := by decide +kernel
theorem dX7_judge_5 : decode cX7_judge 5 = .ok (.iload_n 2, 1) := by decide +kernel
theorem dX7_judge_6 : decode cX7_judge 6 = .ok (.iconst 4, 1) := by decide +kernel
theorem dX7_judge_7 : decode cX7_judge 7 = .ok (.invokestatic 152, 3) := by decide +kernel
theorem dX7_judge_10 : decode cX7_judge 10 = .ok (.iload_n 2, 1) := by decide +kernel
theorem dX7_judge_11 : decode cX7_judge 11 = .ok (.tableswitch 69 0 3 #[29, 39, 49, 59], 29) := by decide +kernel
theorem dX7_judge_40 : decode cX7_judge 40 = .ok (.aload_n 0, 1) := by decide +kernel
theorem dX7_judge_41 : decode cX7_judge 41 = .ok (.getfield 16, 3) := by decide +kernel
theorem dX7_judge_44 : decode cX7_judge 44 = .ok (.getfield 166, 3) := by decide +kernel
theorem dX7_judge_47 : decode cX7_judge 47 = .ok (.iload_n 1, 1) := by decide +kernel
theorem dX7_judge_48 : decode cX7_judge 48 = .ok (.iaload, 1) := by decide +kernel
theorem dX7_judge_49 : decode cX7_judge 49 = .ok (.ireturn, 1) := by decide +kernel
theorem dX7_judge_50 : decode cX7_judge 50 = .ok (.aload_n 0, 1) := by decide +kernel
theorem dX7_judge_51 : decode cX7_judge 51 = .ok (.getfield 35, 3) := by decide +kernel
theorem dX7_judge_54 : decode cX7_judge 54 = .ok (.getfield 169, 3) := by decide +kernel
theorem dX7_judge_57 : decode cX7_judge 57 = .ok (.iload_n 1, 1) := by decide +kernel
theorem dX7_judge_58 : decode cX7_judge 58 = .ok (.iaload, 1) := by decide +kernel
theorem dX7_judge_59 : decode cX7_judge 59 = .ok (.ireturn, 1) := by decide +kernel
theorem dX7_judge_60 : decode cX7_judge 60 = .ok (.aload_n 0, 1) := by decide +kernel
theorem dX7_judge_61 : decode cX7_judge 61 = .ok (.getfield 16, 3) := by decide +kernel
theorem dX7_judge_64 : decode cX7_judge 64 = .ok (.getfield 172, 3) := by decide +kernel
theorem dX7_judge_67 : decode cX7_judge 67 = .ok (.iload_n 1, 1) := by decide +kernel
theorem dX7_judge_68 : decode cX7_judge 68 = .ok (.iaload, 1) := by decide +kernel
theorem dX7_judge_69 : decode cX7_judge 69 = .ok (.ireturn, 1) := by decide +kernel
theorem dX7_judge_70 : decode cX7_judge 70 = .ok (.aload_n 0, 1) := by decide +kernel
theorem dX7_judge_71 : decode cX7_judge 71 = .ok (.getfield 16, 3) := by decide +kernel
theorem dX7_judge_74 : decode cX7_judge 74 = .ok (.getfield 175, 3) := by decide +kernel
theorem dX7_judge_77 : decode cX7_judge 77 = .ok (.iload_n 1, 1) := by decide +kernel
theorem dX7_judge_78 : decode cX7_judge 78 = .ok (.iaload, 1) := by decide +kernel
theorem dX7_judge_79 : decode cX7_judge 79 = .ok (.ireturn, 1) := by decide +kernel
theorem dX7_judge_80 : decode cX7_judge 80 = .ok (.aload_n 0, 1) := by decide +kernel
theorem dX7_judge_81 : decode cX7_judge 81 = .ok (.invokevirtual 131, 3) := by decide +kernel
theorem dX7_judge_84 : decode cX7_judge 84 = .ok (.iload_n 1, 1) := by decide +kernel
theorem dX7_judge_85 : decode cX7_judge 85 = .ok (.invokevirtual 178, 3) := by decide +kernel
theorem dX7_judge_88 : decode cX7_judge 88 = .ok (.ireturn, 1) := by decide +kernel
theorem dX7_stop_0 : decode cX7_stop 0 = .ok (.aload_n 0, 1) := by decide +kernel
theorem dX7_stop_1 : decode cX7_stop 1 = .ok (.iload_n 1, 1) := by decide +kernel
theorem dX7_stop_2 : decode cX7_stop 2 = .ok (.invokevirtual 163, 3) := by decide +kernel
theorem dX7_stop_5 : decode cX7_stop 5 = .ok (.iload_n 3, 1) := by decide +kernel
theorem dX7_stop_6 : decode cX7_stop 6 = .ok (.iconst 1, 1) := by decide +kernel
theorem dX7_stop_7 : decode cX7_stop 7 = .ok (.invokestatic 152, 3) := by decide +kernel
theorem dX7_stop_10 : decode cX7_stop 10 = .ok (.iload_n 2, 1) := by decide +kernel
theorem dX7_stop_11 : decode cX7_stop 11 = .ok (.ifCond .lt 16, 3) := by decide +kernel
theorem dX7_stop_14 : decode cX7_stop 14 = .ok (.iload_n 2, 1) := by decide +kernel
theorem dX7_stop_15 : decode cX7_stop 15 = .ok (.aload_n 0, 1) := by decide +kernel
theorem dX7_stop_16 : decode cX7_stop 16 = .ok (.getfield 16, 3) := by decide +kernel
theorem dX7_stop_19 : decode cX7_stop 19 = .ok (.getfield 175, 3) := by decide +kernel
theorem dX7_stop_22 : decode cX7_stop 22 = .ok (.iload_n 1, 1) := by decide +kernel
theorem dX7_stop_23 : decode cX7_stop 23 = .ok (.iaload, 1) := by decide +kernel
theorem dX7_stop_24 : decode cX7_stop 24 = .ok (.if_icmp .lt 13, 3) := by decide +kernel
theorem dX7_stop_27 : decode cX7_stop 27 = .ok (.new 144, 3) := by decide +kernel
theorem dX7_stop_30 : decode cX7_stop 30 = .ok (.dup, 1) := by decide +kernel
theorem dX7_stop_31 : decode cX7_stop 31 = .ok (.ldc 182, 2) := by decide +kernel
theorem dX7_stop_33 : decode cX7_stop 33 = .ok (.invokespecial 148, 3) := by decide +kernel
theorem dX7_stop_36 : decode cX7_stop 36 = .ok (.athrow, 1) := by decide +kernel
theorem dX7_stop_37 : decode cX7_stop 37 = .ok (.iload_n 3, 1) := by decide +kernel
theorem dX7_stop_38 : decode cX7_stop 38 = .ok (.ifCond .ne 17, 3) := by decide +kernel
theorem dX7_stop_41 : decode cX7_stop 41 = .ok (.aload_n 0, 1) := by decide +kernel
theorem dX7_stop_42 : decode cX7_stop 42 = .ok (.getfield 16, 3) := by decide +kernel
theorem dX7_stop_45 : decode cX7_stop 45 = .ok (.getfield 184, 3) := by decide +kernel
theorem dX7_stop_48 : decode cX7_stop 48 = .ok (.iload_n 1, 1) := by decide +kernel
theorem dX7_stop_49 : decode cX7_stop 49 = .ok (.aaload, 1) := by decide +kernel
theorem dX7_stop_50 : decode cX7_stop 50 = .ok (.iload_n 2, 1) := by decide +kernel
theorem dX7_stop_51 : decode cX7_stop 51 = .ok (.iaload, 1) := by decide +kernel
theorem dX7_stop_52 : decode cX7_stop 52 = .ok (.goto 14, 3) := by decide +kernel
theorem dX7_stop_55 : decode cX7_stop 55 = .ok (.aload_n 0, 1) := by decide +kernel
theorem dX7_stop_56 : decode cX7_stop 56 = .ok (.invokevirtual 131, 3) := by decide +kernel
theorem dX7_stop_59 : decode cX7_stop 59 = .ok (.getfield 187, 3) := by decide +kernel
theorem dX7_stop_62 : decode cX7_stop 62 = .ok (.iload_n 1, 1) := by decide +kernel
theorem dX7_stop_63 : decode cX7_stop 63 = .ok (.aaload, 1) := by decide +kernel
theorem dX7_stop_64 : decode cX7_stop 64 = .ok (.iload_n 2, 1) := by decide +kernel
theorem dX7_stop_65 : decode cX7_stop 65 = .ok (.iaload, 1) := by decide +kernel
theorem dX7_stop_66 : decode cX7_stop 66 = .ok (.ireturn, 1) := by decide +kernel
theorem dX7_where_0 : decode cX7_where 0 = .ok (.aload_n 0, 1) := by decide +kernel
theorem dX7_where_1 : decode cX7_where 1 = .ok (.iload_n 1, 1) := by decide +kernel
theorem dX7_where_2 : decode cX7_where 2 = .ok (.invokevirtual 163, 3) := by decide +kernel
theorem dX7_where_5 : decode cX7_where 5 = .ok (.aload_n 0, 1) := by decide +kernel
theorem dX7_where_6 : decode cX7_where 6 = .ok (.invokevirtual 131, 3) := by decide +kernel
theorem dX7_where_9 : decode cX7_where 9 = .ok (.iload_n 1, 1) := by decide +kernel
theorem dX7_where_10 : decode cX7_where 10 = .ok (.iload_n 2, 1) := by decide +kernel
theorem dX7_where_11 : decode cX7_where 11 = .ok (.invokevirtual 190, 3) := by decide +kernel
theorem dX7_where_14 : decode cX7_where 14 = .ok (.ireturn, 1) := by decide +kernel
theorem dX7_requireCase_0 : decode cX7_requireCase 0 = .ok (.iload_n 1, 1) := by decide +kernel
theorem dX7_requireCase_1 : decode cX7_requireCase 1 = .ok (.ifCond .lt 14, 3) := by decide +kernel
theorem dX7_requireCase_4 : decode cX7_requireCase 4 = .ok (.iload_n 1, 1) := by decide +kernel
theorem dX7_requireCase_5 : decode cX7_requireCase 5 = .ok (.aload_n 0, 1) := by decide +kernel
theorem dX7_requireCase_6 : decode cX7_requireCase 6 = .ok (.getfield 16, 3) := by decide +kernel
theorem dX7_requireCase_9 : decode cX7_requireCase 9 = .ok (.getfield 110, 3) := by decide +kernel
theorem dX7_requireCase_12 : decode cX7_requireCase 12 = .ok (.if_icmp .lt 14, 3) := by decide +kernel
theorem dX7_requireCase_15 : decode cX7_requireCase 15 = .ok (.new 144, 3) := by decide +kernel
theorem dX7_requireCase_18 : decode cX7_requireCase 18 = .ok (.dup, 1) := by decide +kernel
theorem dX7_requireCase_19 : decode cX7_requireCase 19 = .ok (.ldc_w 322, 3) := by decide +kernel
theorem dX7_requireCase_22 : decode cX7_requireCase 22 = .ok (.invokespecial 148, 3) := by decide +kernel
theorem dX7_requireCase_25 : decode cX7_requireCase 25 = .ok (.athrow, 1) := by decide +kernel
theorem dX7_requireCase_26 : decode cX7_requireCase 26 = .ok (.return_, 1) := by decide +kernel
theorem dX7_proof_0 : decode cX7_proof 0 = .ok (.aload_n 0, 1) := by decide +kernel
theorem dX7_proof_1 : decode cX7_proof 1 = .ok (.iload_n 1, 1) := by decide +kernel
theorem dX7_proof_2 : decode cX7_proof 2 = .ok (.invokevirtual 194, 3) := by decide +kernel
theorem dX7_proof_5 : decode cX7_proof 5 = .ok (.aload_n 0, 1) := by decide +kernel
theorem dX7_proof_6 : decode cX7_proof 6 = .ok (.iload_n 2, 1) := by decide +kernel
theorem dX7_proof_7 : decode cX7_proof 7 = .ok (.invokevirtual 149, 3) := by decide +kernel
theorem dX7_proof_10 : decode cX7_proof 10 = .ok (.aload_n 0, 1) := by decide +kernel
theorem dX7_proof_11 : decode cX7_proof 11 = .ok (.getfield 16, 3) := by decide +kernel
theorem dX7_proof_14 : decode cX7_proof 14 = .ok (.getfield 197, 3) := by decide +kernel
theorem dX7_proof_17 : decode cX7_proof 17 = .ok (.iload_n 1, 1) := by decide +kernel
theorem dX7_proof_18 : decode cX7_proof 18 = .ok (.aaload, 1) := by decide +kernel
theorem dX7_proof_19 : decode cX7_proof 19 = .ok (.iload_n 2, 1) := by decide +kernel
theorem dX7_proof_20 : decode cX7_proof 20 = .ok (.iaload, 1) := by decide +kernel
theorem dX7_proof_21 : decode cX7_proof 21 = .ok (.ireturn, 1) := by decide +kernel
def f_X7_settledCourt   (I : Mem) (P : PMem) : Option (Mem × PMem) :=
  if (I 7 0 0 10) = 0 then (gd (decide ((P 7 0 0 2) < 2)) <|
  (f_X1_load 0 (P 7 0 0 2) 0 I P).bind fun y1 =>
  (f_X1_settle y1.2 0 y1.1).bind fun y2 =>
  bnd (upd4 y2 7 0 0 10 (1 : Int32)) fun I1' =>
  some (I1', y1.2)) else (some (I, P))
theorem b_X7_settledCourt (X : CX) (Q : State → Prop) {I : Mem} {P : PMem} {O : Nat → Int64} {D : Bool} {n : Nat} {r : (Mem × PMem)}  (h : f_X7_settledCourt I P = some r) (E : EndR X cX7_settledCourt RX7 1 (some (.object "ApartBench$Court")) 7 n (some (.inr (.inr (1, 0, 0)))) r.1 r.2 O D Q) : Here X cX7_settledCourt RX7 1 (some (.object "ApartBench$Court")) 7 n 0 [some (.inr (.inr (7, 0, 0)))] [] I P O D n Q := by
  unfold f_X7_settledCourt at h
  refine h_aload_n dX7_settledCourt_0 rfl ?_
  refine g_X7_94  dX7_settledCourt_1 ?_
  refine h_if_ne (tgt := 34) dX7_settledCourt_4 (by decide) (fun q1 => ?_) (fun q1 => ?_)
  · rw [if_neg q1] at h
    refine h_aload_n dX7_settledCourt_34 rfl ?_
    refine g_X7_47  dX7_settledCourt_35 ?_
    cases h
    exact h_aret dX7_settledCourt_38 "ApartBench$Court" rfl E
  · rw [if_pos q1] at h
    refine h_aload_n dX7_settledCourt_7 rfl ?_
    refine g_X7_47  dX7_settledCourt_8 ?_
    refine h_aload_n dX7_settledCourt_11 rfl ?_
    refine g_X7_16  dX7_settledCourt_12 ?_
    obtain ⟨g1, h⟩ := gd_some h
    have w1 := of_decide_eq_true g1
    refine h_aload_n dX7_settledCourt_15 rfl ?_
    refine g_X7_35  dX7_settledCourt_16 ?_
    obtain ⟨y1, hh1, h⟩ := obd_some h
    refine h_cVv [.inr (.inr (3, (P 7 0 0 2), 0)), .inr (.inr (0, 0, 0))] (m_X1_load (by decide) (by omega) (by decide) hh1) cw_X7_247 dX7_settledCourt_19 rfl (ok_1 (by decide)) (by decide) rfl (Or.inr rfl) rfl ?_
    refine h_aload_n dX7_settledCourt_22 rfl ?_
    refine g_X7_47  dX7_settledCourt_23 ?_
    obtain ⟨y2, hh2, h⟩ := obd_some h
    refine h_cVv [] (m_X1_settle (by decide) hh2) cw_X7_263 dX7_settledCourt_26 rfl (ok_1 (by decide)) (by decide) rfl (Or.inr rfl) rfl ?_
    refine h_aload_n dX7_settledCourt_29 rfl ?_
    refine h_iconst (1 : Int32) dX7_settledCourt_30 k_iconst_1 ?_
    obtain ⟨I1', e1, h⟩ := bnd_some h
    refine p_X7_94  rfl dX7_settledCourt_31 ?_
    refine h_nmI e1 ?_
    refine h_aload_n dX7_settledCourt_34 rfl ?_
    refine g_X7_47  dX7_settledCourt_35 ?_
    cases h
    exact h_aret dX7_settledCourt_38 "ApartBench$Court" rfl E
theorem m_X7_settledCourt {I : Mem} {P : PMem} {O : Nat → Int64} {D : Bool} {n : Nat}  {r : (Mem × PMem)}  (h : f_X7_settledCourt I P = some r) : MethR yX7_settledCourt cX7_settledCourt 1 (some (.object "ApartBench$Court")) 7 [.inr (.inr (7, 0, 0))] I P O D n (some (.inr (.inr (1, 0, 0)))) r.1 r.2 O D n := meth_R (Nat.le_refl _) (by decide) rfl (Nat.le_of_ble_eq_true rfl) rfl (fun X Q E => b_X7_settledCourt X Q  h E)
def f_X7_count   (I : Mem) (P : PMem) (v1 : Int32) : Option ((Int32 × Mem × PMem) ⊕ Nat) :=
  (if v1 = (0 : Int32) then (gd (decide ((P 7 0 0 2) < 2)) <|
  some (Sum.inl ((I 3 (P 7 0 0 2) 0 0), I, P))) else (if v1 = (1 : Int32) then (gd (decide ((P 7 0 0 2) < 2)) <|
  some (Sum.inl ((I 3 (P 7 0 0 2) 0 2), I, P))) else (if v1 = (2 : Int32) then (gd (decide ((P 7 0 0 2) < 2)) <|
  (f_X3_gossipTenths I (P 7 0 0 2)).bind fun y1 =>
  some (Sum.inl (y1, I, P))) else (if v1 = (3 : Int32) then (gd (decide ((P 7 0 0 2) < 2)) <|
  some (Sum.inl ((I 3 (P 7 0 0 2) 0 7), I, P))) else (if v1 = (4 : Int32) then (gd (decide ((P 7 0 0 2) < 2)) <|
  some (Sum.inl ((I 3 (P 7 0 0 2) 0 13), I, P))) else (if v1 = (5 : Int32) then (some (Sum.inl ((I 0 0 0 1), I, P))) else (if v1 = (6 : Int32) then (some (Sum.inl ((I 6 0 0 3), I, P))) else (if v1 = (7 : Int32) then (some (Sum.inl ((I 6 1 0 3), I, P))) else (if v1 = (8 : Int32) then (some (Sum.inl ((I 6 2 0 3), I, P))) else (if v1 = (9 : Int32) then ((f_X7_settledCourt I P).bind fun y2 =>
  (f_X1_howManyGuilty y2.1 y2.2 0).bind fun y3 =>
  some (Sum.inl (y3, y2.1, y2.2))) else (if v1 = (10 : Int32) then (some (Sum.inl ((I 6 3 0 3), I, P))) else (if v1 = (11 : Int32) then (some (Sum.inl ((I 6 4 0 3), I, P))) else (if v1 = (12 : Int32) then (some (Sum.inl ((I 7 0 0 1), I, P))) else (if v1 = (13 : Int32) then (some (Sum.inl ((I 10 0 0 0), I, P))) else (if v1 = (14 : Int32) then (some (Sum.inl ((I 10 0 0 1), I, P))) else (if v1 = (15 : Int32) then (some (Sum.inl ((I 10 0 0 2), I, P))) else (some (Sum.inr 1))))))))))))))))))
theorem b_X7_count (X : CX) (Q : State → Prop) {I : Mem} {P : PMem} {O : Nat → Int64} {D : Bool} {n : Nat} {v1 : Int32} {r : (Int32 × Mem × PMem)}  (h : f_X7_count I P v1 = some (Sum.inl r)) (E : EndR X cX7_count RX7 2 (some .int) 8 n (some (.inl r.1)) r.2.1 r.2.2 O D Q) : Here X cX7_count RX7 2 (some .int) 8 n 0 [some (.inr (.inr (7, 0, 0))), some (.inl v1)] [] I P O D n Q := by
  unfold f_X7_count at h
  refine h_iload_n dX7_count_0 rfl ?_
  by_cases q1 : v1 = (0 : Int32)
  · rw [if_pos q1] at h
    refine h_tswIn (tgt := 80) 0 dX7_count_1 (by rw [q1]; decide) (by decide) rfl (by decide) ?_
    refine h_aload_n dX7_count_80 rfl ?_
    refine g_X7_16  dX7_count_81 ?_
    obtain ⟨g1, h⟩ := gd_some h
    have w1 := of_decide_eq_true g1
    refine g_X7_97 (by omega) dX7_count_84 ?_
    cases h
    exact h_iret dX7_count_87 rfl E
  · rw [if_neg q1] at h
    by_cases q2 : v1 = (1 : Int32)
    · rw [if_pos q2] at h
      refine h_tswIn (tgt := 88) 1 dX7_count_1 (by rw [q2]; decide) (by decide) rfl (by decide) ?_
      refine h_aload_n dX7_count_88 rfl ?_
      refine g_X7_16  dX7_count_89 ?_
      obtain ⟨g2, h⟩ := gd_some h
      have w2 := of_decide_eq_true g2
      refine g_X7_100 (by omega) dX7_count_92 ?_
      cases h
      exact h_iret dX7_count_95 rfl E
    · rw [if_neg q2] at h
      by_cases q3 : v1 = (2 : Int32)
      · rw [if_pos q3] at h
        refine h_tswIn (tgt := 96) 2 dX7_count_1 (by rw [q3]; decide) (by decide) rfl (by decide) ?_
        refine h_aload_n dX7_count_96 rfl ?_
        refine g_X7_16  dX7_count_97 ?_
        obtain ⟨g3, h⟩ := gd_some h
        have w3 := of_decide_eq_true g3
        obtain ⟨y1, hh1, h⟩ := obd_some h
        refine h_cVi [] (m_X3_gossipTenths (by omega) hh1) cw_X7_103 dX7_count_100 rfl (ok_3 (by omega)) (by decide) rfl (Or.inr rfl) rfl ?_
        cases h
        exact h_iret dX7_count_103 rfl E
      · rw [if_neg q3] at h
        by_cases q4 : v1 = (3 : Int32)
        · rw [if_pos q4] at h
          refine h_tswIn (tgt := 104) 3 dX7_count_1 (by rw [q4]; decide) (by decide) rfl (by decide) ?_
          refine h_aload_n dX7_count_104 rfl ?_
          refine g_X7_16  dX7_count_105 ?_
          obtain ⟨g4, h⟩ := gd_some h
          have w4 := of_decide_eq_true g4
          refine g_X7_107 (by omega) dX7_count_108 ?_
          cases h
          exact h_iret dX7_count_111 rfl E
        · rw [if_neg q4] at h
          by_cases q5 : v1 = (4 : Int32)
          · rw [if_pos q5] at h
            refine h_tswIn (tgt := 112) 4 dX7_count_1 (by rw [q5]; decide) (by decide) rfl (by decide) ?_
            refine h_aload_n dX7_count_112 rfl ?_
            refine g_X7_16  dX7_count_113 ?_
            obtain ⟨g5, h⟩ := gd_some h
            have w5 := of_decide_eq_true g5
            refine g_X7_110 (by omega) dX7_count_116 ?_
            cases h
            exact h_iret dX7_count_119 rfl E
          · rw [if_neg q5] at h
            by_cases q6 : v1 = (5 : Int32)
            · rw [if_pos q6] at h
              refine h_tswIn (tgt := 120) 5 dX7_count_1 (by rw [q6]; decide) (by decide) rfl (by decide) ?_
              refine h_aload_n dX7_count_120 rfl ?_
              refine g_X7_35  dX7_count_121 ?_
              refine g_X7_113 (by decide) dX7_count_124 ?_
              cases h
              exact h_iret dX7_count_127 rfl E
            · rw [if_neg q6] at h
              by_cases q7 : v1 = (6 : Int32)
              · rw [if_pos q7] at h
                refine h_tswIn (tgt := 128) 6 dX7_count_1 (by rw [q7]; decide) (by decide) rfl (by decide) ?_
                refine h_aload_n dX7_count_128 rfl ?_
                refine g_X7_35  dX7_count_129 ?_
                refine g_X7_116 (by decide) dX7_count_132 ?_
                refine g_X7_120 (by decide) dX7_count_135 ?_
                cases h
                exact h_iret dX7_count_138 rfl E
              · rw [if_neg q7] at h
                by_cases q8 : v1 = (7 : Int32)
                · rw [if_pos q8] at h
                  refine h_tswIn (tgt := 139) 7 dX7_count_1 (by rw [q8]; decide) (by decide) rfl (by decide) ?_
                  refine h_aload_n dX7_count_139 rfl ?_
                  refine g_X7_35  dX7_count_140 ?_
                  refine g_X7_125 (by decide) dX7_count_143 ?_
                  refine g_X7_120 (by decide) dX7_count_146 ?_
                  cases h
                  exact h_iret dX7_count_149 rfl E
                · rw [if_neg q8] at h
                  by_cases q9 : v1 = (8 : Int32)
                  · rw [if_pos q9] at h
                    refine h_tswIn (tgt := 150) 8 dX7_count_1 (by rw [q9]; decide) (by decide) rfl (by decide) ?_
                    refine h_aload_n dX7_count_150 rfl ?_
                    refine g_X7_35  dX7_count_151 ?_
                    refine g_X7_128 (by decide) dX7_count_154 ?_
                    refine g_X7_120 (by decide) dX7_count_157 ?_
                    cases h
                    exact h_iret dX7_count_160 rfl E
                  · rw [if_neg q9] at h
                    by_cases q10 : v1 = (9 : Int32)
                    · rw [if_pos q10] at h
                      refine h_tswIn (tgt := 161) 9 dX7_count_1 (by rw [q10]; decide) (by decide) rfl (by decide) ?_
                      refine h_aload_n dX7_count_161 rfl ?_
                      obtain ⟨y2, hh2, h⟩ := obd_some h
                      refine h_cVa [] (m_X7_settledCourt  hh2) cw_X7_131 dX7_count_162 rfl ok_7 (by decide) rfl (Or.inr rfl) rfl ?_
                      obtain ⟨y3, hh3, h⟩ := obd_some h
                      refine h_cVi [] (m_X1_howManyGuilty (by decide) hh3) cw_X7_135 dX7_count_165 rfl (ok_1 (by decide)) (by decide) rfl (Or.inr rfl) rfl ?_
                      cases h
                      exact h_iret dX7_count_168 rfl E
                    · rw [if_neg q10] at h
                      by_cases q11 : v1 = (10 : Int32)
                      · rw [if_pos q11] at h
                        refine h_tswIn (tgt := 169) 10 dX7_count_1 (by rw [q11]; decide) (by decide) rfl (by decide) ?_
                        refine h_aload_n dX7_count_169 rfl ?_
                        refine g_X7_35  dX7_count_170 ?_
                        refine g_X7_138 (by decide) dX7_count_173 ?_
                        refine g_X7_120 (by decide) dX7_count_176 ?_
                        cases h
                        exact h_iret dX7_count_179 rfl E
                      · rw [if_neg q11] at h
                        by_cases q12 : v1 = (11 : Int32)
                        · rw [if_pos q12] at h
                          refine h_tswIn (tgt := 180) 11 dX7_count_1 (by rw [q12]; decide) (by decide) rfl (by decide) ?_
                          refine h_aload_n dX7_count_180 rfl ?_
                          refine g_X7_35  dX7_count_181 ?_
                          refine g_X7_141 (by decide) dX7_count_184 ?_
                          refine g_X7_120 (by decide) dX7_count_187 ?_
                          cases h
                          exact h_iret dX7_count_190 rfl E
                        · rw [if_neg q12] at h
                          by_cases q13 : v1 = (12 : Int32)
                          · rw [if_pos q13] at h
                            refine h_tswIn (tgt := 191) 12 dX7_count_1 (by rw [q13]; decide) (by decide) rfl (by decide) ?_
                            refine h_aload_n dX7_count_191 rfl ?_
                            refine g_X7_58  dX7_count_192 ?_
                            cases h
                            exact h_iret dX7_count_195 rfl E
                          · rw [if_neg q13] at h
                            by_cases q14 : v1 = (13 : Int32)
                            · rw [if_pos q14] at h
                              refine h_tswIn (tgt := 196) 13 dX7_count_1 (by rw [q14]; decide) (by decide) rfl (by decide) ?_
                              refine h_aload_n dX7_count_196 rfl ?_
                              refine g_X7_35  dX7_count_197 ?_
                              refine g_X7_82 (by decide) dX7_count_200 ?_
                              refine h_iconst (0 : Int32) dX7_count_203 k_iconst_0 ?_
                              refine al_10 (by decide) 0 cl_0 dX7_count_204 rfl ?_
                              cases h
                              exact h_iret dX7_count_205 rfl E
                            · rw [if_neg q14] at h
                              by_cases q15 : v1 = (14 : Int32)
                              · rw [if_pos q15] at h
                                refine h_tswIn (tgt := 206) 14 dX7_count_1 (by rw [q15]; decide) (by decide) rfl (by decide) ?_
                                refine h_aload_n dX7_count_206 rfl ?_
                                refine g_X7_35  dX7_count_207 ?_
                                refine g_X7_82 (by decide) dX7_count_210 ?_
                                refine h_iconst (1 : Int32) dX7_count_213 k_iconst_1 ?_
                                refine al_10 (by decide) 1 cl_1 dX7_count_214 rfl ?_
                                cases h
                                exact h_iret dX7_count_215 rfl E
                              · rw [if_neg q15] at h
                                by_cases q16 : v1 = (15 : Int32)
                                · rw [if_pos q16] at h
                                  refine h_tswIn (tgt := 216) 15 dX7_count_1 (by rw [q16]; decide) (by decide) rfl (by decide) ?_
                                  refine h_aload_n dX7_count_216 rfl ?_
                                  refine g_X7_35  dX7_count_217 ?_
                                  refine g_X7_82 (by decide) dX7_count_220 ?_
                                  refine h_iconst (2 : Int32) dX7_count_223 k_iconst_2 ?_
                                  refine al_10 (by decide) 2 cl_2 dX7_count_224 rfl ?_
                                  cases h
                                  exact h_iret dX7_count_225 rfl E
                                · rw [if_neg q16] at h
                                  refine h_tswOut (tgt := 226) dX7_count_1 ?_ (by decide) ?_
                                  · have n0 : v1.toInt ≠ 0 := fun e => q1 (Int32.toInt_inj.mp (e.trans (by decide)))
                                    have n1 : v1.toInt ≠ 1 := fun e => q2 (Int32.toInt_inj.mp (e.trans (by decide)))
                                    have n2 : v1.toInt ≠ 2 := fun e => q3 (Int32.toInt_inj.mp (e.trans (by decide)))
                                    have n3 : v1.toInt ≠ 3 := fun e => q4 (Int32.toInt_inj.mp (e.trans (by decide)))
                                    have n4 : v1.toInt ≠ 4 := fun e => q5 (Int32.toInt_inj.mp (e.trans (by decide)))
                                    have n5 : v1.toInt ≠ 5 := fun e => q6 (Int32.toInt_inj.mp (e.trans (by decide)))
                                    have n6 : v1.toInt ≠ 6 := fun e => q7 (Int32.toInt_inj.mp (e.trans (by decide)))
                                    have n7 : v1.toInt ≠ 7 := fun e => q8 (Int32.toInt_inj.mp (e.trans (by decide)))
                                    have n8 : v1.toInt ≠ 8 := fun e => q9 (Int32.toInt_inj.mp (e.trans (by decide)))
                                    have n9 : v1.toInt ≠ 9 := fun e => q10 (Int32.toInt_inj.mp (e.trans (by decide)))
                                    have n10 : v1.toInt ≠ 10 := fun e => q11 (Int32.toInt_inj.mp (e.trans (by decide)))
                                    have n11 : v1.toInt ≠ 11 := fun e => q12 (Int32.toInt_inj.mp (e.trans (by decide)))
                                    have n12 : v1.toInt ≠ 12 := fun e => q13 (Int32.toInt_inj.mp (e.trans (by decide)))
                                    have n13 : v1.toInt ≠ 13 := fun e => q14 (Int32.toInt_inj.mp (e.trans (by decide)))
                                    have n14 : v1.toInt ≠ 14 := fun e => q15 (Int32.toInt_inj.mp (e.trans (by decide)))
                                    have n15 : v1.toInt ≠ 15 := fun e => q16 (Int32.toInt_inj.mp (e.trans (by decide)))
                                    omega
                                  · cases h
theorem bx_X7_count (X : CX) (Q : State → Prop) {I : Mem} {P : PMem} {O : Nat → Int64} {D : Bool} {n : Nat} {v1 : Int32} {r : Nat}  (h : f_X7_count I P v1 = some (Sum.inr r)) (E : EndX X cX7_count RX7 2 (some .int) 8 (n + 1) r I P O D Q) : Here X cX7_count RX7 2 (some .int) 8 (n + 1) 0 [some (.inr (.inr (7, 0, 0))), some (.inl v1)] [] I P O D n Q := by
  unfold f_X7_count at h
  refine h_iload_n dX7_count_0 rfl ?_
  by_cases q1 : v1 = (0 : Int32)
  · rw [if_pos q1] at h
    refine h_tswIn (tgt := 80) 0 dX7_count_1 (by rw [q1]; decide) (by decide) rfl (by decide) ?_
    refine h_aload_n dX7_count_80 rfl ?_
    refine g_X7_16  dX7_count_81 ?_
    obtain ⟨g1, h⟩ := gd_some h
    have w1 := of_decide_eq_true g1
    refine g_X7_97 (by omega) dX7_count_84 ?_
    cases h
  · rw [if_neg q1] at h
    by_cases q2 : v1 = (1 : Int32)
    · rw [if_pos q2] at h
      refine h_tswIn (tgt := 88) 1 dX7_count_1 (by rw [q2]; decide) (by decide) rfl (by decide) ?_
      refine h_aload_n dX7_count_88 rfl ?_
      refine g_X7_16  dX7_count_89 ?_
      obtain ⟨g2, h⟩ := gd_some h
      have w2 := of_decide_eq_true g2
      refine g_X7_100 (by omega) dX7_count_92 ?_
      cases h
    · rw [if_neg q2] at h
      by_cases q3 : v1 = (2 : Int32)
      · rw [if_pos q3] at h
        refine h_tswIn (tgt := 96) 2 dX7_count_1 (by rw [q3]; decide) (by decide) rfl (by decide) ?_
        refine h_aload_n dX7_count_96 rfl ?_
        refine g_X7_16  dX7_count_97 ?_
        obtain ⟨g3, h⟩ := gd_some h
        have w3 := of_decide_eq_true g3
        obtain ⟨y1, hh1, h⟩ := obd_some h
        refine h_cVi [] (m_X3_gossipTenths (by omega) hh1) cw_X7_103 dX7_count_100 rfl (ok_3 (by omega)) (by decide) rfl (Or.inr rfl) rfl ?_
        cases h
      · rw [if_neg q3] at h
        by_cases q4 : v1 = (3 : Int32)
        · rw [if_pos q4] at h
          refine h_tswIn (tgt := 104) 3 dX7_count_1 (by rw [q4]; decide) (by decide) rfl (by decide) ?_
          refine h_aload_n dX7_count_104 rfl ?_
          refine g_X7_16  dX7_count_105 ?_
          obtain ⟨g4, h⟩ := gd_some h
          have w4 := of_decide_eq_true g4
          refine g_X7_107 (by omega) dX7_count_108 ?_
          cases h
        · rw [if_neg q4] at h
          by_cases q5 : v1 = (4 : Int32)
          · rw [if_pos q5] at h
            refine h_tswIn (tgt := 112) 4 dX7_count_1 (by rw [q5]; decide) (by decide) rfl (by decide) ?_
            refine h_aload_n dX7_count_112 rfl ?_
            refine g_X7_16  dX7_count_113 ?_
            obtain ⟨g5, h⟩ := gd_some h
            have w5 := of_decide_eq_true g5
            refine g_X7_110 (by omega) dX7_count_116 ?_
            cases h
          · rw [if_neg q5] at h
            by_cases q6 : v1 = (5 : Int32)
            · rw [if_pos q6] at h
              refine h_tswIn (tgt := 120) 5 dX7_count_1 (by rw [q6]; decide) (by decide) rfl (by decide) ?_
              refine h_aload_n dX7_count_120 rfl ?_
              refine g_X7_35  dX7_count_121 ?_
              refine g_X7_113 (by decide) dX7_count_124 ?_
              cases h
            · rw [if_neg q6] at h
              by_cases q7 : v1 = (6 : Int32)
              · rw [if_pos q7] at h
                refine h_tswIn (tgt := 128) 6 dX7_count_1 (by rw [q7]; decide) (by decide) rfl (by decide) ?_
                refine h_aload_n dX7_count_128 rfl ?_
                refine g_X7_35  dX7_count_129 ?_
                refine g_X7_116 (by decide) dX7_count_132 ?_
                refine g_X7_120 (by decide) dX7_count_135 ?_
                cases h
              · rw [if_neg q7] at h
                by_cases q8 : v1 = (7 : Int32)
                · rw [if_pos q8] at h
                  refine h_tswIn (tgt := 139) 7 dX7_count_1 (by rw [q8]; decide) (by decide) rfl (by decide) ?_
                  refine h_aload_n dX7_count_139 rfl ?_
                  refine g_X7_35  dX7_count_140 ?_
                  refine g_X7_125 (by decide) dX7_count_143 ?_
                  refine g_X7_120 (by decide) dX7_count_146 ?_
                  cases h
                · rw [if_neg q8] at h
                  by_cases q9 : v1 = (8 : Int32)
                  · rw [if_pos q9] at h
                    refine h_tswIn (tgt := 150) 8 dX7_count_1 (by rw [q9]; decide) (by decide) rfl (by decide) ?_
                    refine h_aload_n dX7_count_150 rfl ?_
                    refine g_X7_35  dX7_count_151 ?_
                    refine g_X7_128 (by decide) dX7_count_154 ?_
                    refine g_X7_120 (by decide) dX7_count_157 ?_
                    cases h
                  · rw [if_neg q9] at h
                    by_cases q10 : v1 = (9 : Int32)
                    · rw [if_pos q10] at h
                      refine h_tswIn (tgt := 161) 9 dX7_count_1 (by rw [q10]; decide) (by decide) rfl (by decide) ?_
                      refine h_aload_n dX7_count_161 rfl ?_
                      obtain ⟨y2, hh2, h⟩ := obd_some h
                      refine h_cVa [] (m_X7_settledCourt  hh2) cw_X7_131 dX7_count_162 rfl ok_7 (by decide) rfl (Or.inr rfl) rfl ?_
                      obtain ⟨y3, hh3, h⟩ := obd_some h
                      refine h_cVi [] (m_X1_howManyGuilty (by decide) hh3) cw_X7_135 dX7_count_165 rfl (ok_1 (by decide)) (by decide) rfl (Or.inr rfl) rfl ?_
                      cases h
                    · rw [if_neg q10] at h
                      by_cases q11 : v1 = (10 : Int32)
                      · rw [if_pos q11] at h
                        refine h_tswIn (tgt := 169) 10 dX7_count_1 (by rw [q11]; decide) (by decide) rfl (by decide) ?_
                        refine h_aload_n dX7_count_169 rfl ?_
                        refine g_X7_35  dX7_count_170 ?_
                        refine g_X7_138 (by decide) dX7_count_173 ?_
                        refine g_X7_120 (by decide) dX7_count_176 ?_
                        cases h
                      · rw [if_neg q11] at h
                        by_cases q12 : v1 = (11 : Int32)
                        · rw [if_pos q12] at h
                          refine h_tswIn (tgt := 180) 11 dX7_count_1 (by rw [q12]; decide) (by decide) rfl (by decide) ?_
                          refine h_aload_n dX7_count_180 rfl ?_
                          refine g_X7_35  dX7_count_181 ?_
                          refine g_X7_141 (by decide) dX7_count_184 ?_
                          refine g_X7_120 (by decide) dX7_count_187 ?_
                          cases h
                        · rw [if_neg q12] at h
                          by_cases q13 : v1 = (12 : Int32)
                          · rw [if_pos q13] at h
                            refine h_tswIn (tgt := 191) 12 dX7_count_1 (by rw [q13]; decide) (by decide) rfl (by decide) ?_
                            refine h_aload_n dX7_count_191 rfl ?_
                            refine g_X7_58  dX7_count_192 ?_
                            cases h
                          · rw [if_neg q13] at h
                            by_cases q14 : v1 = (13 : Int32)
                            · rw [if_pos q14] at h
                              refine h_tswIn (tgt := 196) 13 dX7_count_1 (by rw [q14]; decide) (by decide) rfl (by decide) ?_
                              refine h_aload_n dX7_count_196 rfl ?_
                              refine g_X7_35  dX7_count_197 ?_
                              refine g_X7_82 (by decide) dX7_count_200 ?_
                              refine h_iconst (0 : Int32) dX7_count_203 k_iconst_0 ?_
                              refine al_10 (by decide) 0 cl_0 dX7_count_204 rfl ?_
                              cases h
                            · rw [if_neg q14] at h
                              by_cases q15 : v1 = (14 : Int32)
                              · rw [if_pos q15] at h
                                refine h_tswIn (tgt := 206) 14 dX7_count_1 (by rw [q15]; decide) (by decide) rfl (by decide) ?_
                                refine h_aload_n dX7_count_206 rfl ?_
                                refine g_X7_35  dX7_count_207 ?_
                                refine g_X7_82 (by decide) dX7_count_210 ?_
                                refine h_iconst (1 : Int32) dX7_count_213 k_iconst_1 ?_
                                refine al_10 (by decide) 1 cl_1 dX7_count_214 rfl ?_
                                cases h
                              · rw [if_neg q15] at h
                                by_cases q16 : v1 = (15 : Int32)
                                · rw [if_pos q16] at h
                                  refine h_tswIn (tgt := 216) 15 dX7_count_1 (by rw [q16]; decide) (by decide) rfl (by decide) ?_
                                  refine h_aload_n dX7_count_216 rfl ?_
                                  refine g_X7_35  dX7_count_217 ?_
                                  refine g_X7_82 (by decide) dX7_count_220 ?_
                                  refine h_iconst (2 : Int32) dX7_count_223 k_iconst_2 ?_
                                  refine al_10 (by decide) 2 cl_2 dX7_count_224 rfl ?_
                                  cases h
                                · rw [if_neg q16] at h
                                  refine h_tswOut (tgt := 226) dX7_count_1 ?_ (by decide) ?_
                                  · have n0 : v1.toInt ≠ 0 := fun e => q1 (Int32.toInt_inj.mp (e.trans (by decide)))
                                    have n1 : v1.toInt ≠ 1 := fun e => q2 (Int32.toInt_inj.mp (e.trans (by decide)))
                                    have n2 : v1.toInt ≠ 2 := fun e => q3 (Int32.toInt_inj.mp (e.trans (by decide)))
                                    have n3 : v1.toInt ≠ 3 := fun e => q4 (Int32.toInt_inj.mp (e.trans (by decide)))
                                    have n4 : v1.toInt ≠ 4 := fun e => q5 (Int32.toInt_inj.mp (e.trans (by decide)))
                                    have n5 : v1.toInt ≠ 5 := fun e => q6 (Int32.toInt_inj.mp (e.trans (by decide)))
                                    have n6 : v1.toInt ≠ 6 := fun e => q7 (Int32.toInt_inj.mp (e.trans (by decide)))
                                    have n7 : v1.toInt ≠ 7 := fun e => q8 (Int32.toInt_inj.mp (e.trans (by decide)))
                                    have n8 : v1.toInt ≠ 8 := fun e => q9 (Int32.toInt_inj.mp (e.trans (by decide)))
                                    have n9 : v1.toInt ≠ 9 := fun e => q10 (Int32.toInt_inj.mp (e.trans (by decide)))
                                    have n10 : v1.toInt ≠ 10 := fun e => q11 (Int32.toInt_inj.mp (e.trans (by decide)))
                                    have n11 : v1.toInt ≠ 11 := fun e => q12 (Int32.toInt_inj.mp (e.trans (by decide)))
                                    have n12 : v1.toInt ≠ 12 := fun e => q13 (Int32.toInt_inj.mp (e.trans (by decide)))
                                    have n13 : v1.toInt ≠ 13 := fun e => q14 (Int32.toInt_inj.mp (e.trans (by decide)))
                                    have n14 : v1.toInt ≠ 14 := fun e => q15 (Int32.toInt_inj.mp (e.trans (by decide)))
                                    have n15 : v1.toInt ≠ 15 := fun e => q16 (Int32.toInt_inj.mp (e.trans (by decide)))
                                    omega
                                  · cases h
                                    exact h_throw (text := "no such count") (j := 15) tw_1 (by decide) (by decide) rfl dX7_count_226 dX7_count_229 dX7_count_230 dX7_count_232 dX7_count_235 E
theorem m_X7_count {I : Mem} {P : PMem} {O : Nat → Int64} {D : Bool} {n : Nat} {v1 : Int32} {r : (Int32 × Mem × PMem)}  (h : f_X7_count I P v1 = some (Sum.inl r)) : MethR yX7_count cX7_count 2 (some .int) 8 [.inr (.inr (7, 0, 0)), .inl v1] I P O D n (some (.inl r.1)) r.2.1 r.2.2 O D n := meth_R (Nat.le_refl _) (by decide) rfl (Nat.le_of_ble_eq_true rfl) rfl (fun X Q E => b_X7_count X Q  h E)
theorem mx_X7_count {I : Mem} {P : PMem} {O : Nat → Int64} {D : Bool} {n : Nat} {v1 : Int32} {r : Nat}  (h : f_X7_count I P v1 = some (Sum.inr r)) : MethX yX7_count cX7_count 2 (some .int) 8 [.inr (.inr (7, 0, 0)), .inl v1] I P O D n r I P O D (n + 1) := meth_X (Nat.le_succ _) (by decide) rfl (Nat.le_of_ble_eq_true rfl) rfl (fun X Q E => bx_X7_count X Q  h E)
def f_X7_requireTown_15  (I : Mem) (P : PMem)  : Option ((Unit) ⊕ Nat) :=
  some (Sum.inr 1)
theorem b_X7_requireTown_15 (X : CX) (Q : State → Prop) {I : Mem} {P : PMem} {O : Nat → Int64} {D : Bool} {n : Nat} {r : (Unit)}  (h : f_X7_requireTown_15 I P = some (Sum.inl r)) (E : EndR X cX7_requireTown RX7 2 (none) 8 n none I P O D Q) : Here X cX7_requireTown RX7 2 (none) 8 n 15 [none, none] [] I P O D n Q := by
  unfold f_X7_requireTown_15 at h
  cases h
theorem bx_X7_requireTown_15 (X : CX) (Q : State → Prop) {I : Mem} {P : PMem} {O : Nat → Int64} {D : Bool} {n : Nat} {r : Nat}  (h : f_X7_requireTown_15 I P = some (Sum.inr r)) (E : EndX X cX7_requireTown RX7 2 (none) 8 (n + 1) r I P O D Q) : Here X cX7_requireTown RX7 2 (none) 8 (n + 1) 15 [none, none] [] I P O D n Q := by
  unfold f_X7_requireTown_15 at h
  cases h
  exact h_throwW (text := "no such town") (j := 18) tw_1 (by decide) (by decide) rfl dX7_requireTown_15 dX7_requireTown_18 dX7_requireTown_19 dX7_requireTown_22 dX7_requireTown_25 E
def f_X7_requireTown  (I : Mem) (P : PMem) (v1 : Int32) : Option ((Unit) ⊕ Nat) :=
  if v1 < 0 then (f_X7_requireTown_15 I P ) else (gd (decide ((P 7 0 0 2) < 2)) <|
  if v1 < (I 3 (P 7 0 0 2) 0 0) then (some (Sum.inl ())) else (f_X7_requireTown_15 I P ))
theorem b_X7_requireTown (X : CX) (Q : State → Prop) {I : Mem} {P : PMem} {O : Nat → Int64} {D : Bool} {n : Nat} {v1 : Int32} {r : (Unit)}  (h : f_X7_requireTown I P v1 = some (Sum.inl r)) (E : EndR X cX7_requireTown RX7 2 (none) 8 n none I P O D Q) : Here X cX7_requireTown RX7 2 (none) 8 n 0 [some (.inr (.inr (7, 0, 0))), some (.inl v1)] [] I P O D n Q := by
  unfold f_X7_requireTown at h
  refine h_iload_n dX7_requireTown_0 rfl ?_
  refine h_if_lt (tgt := 15) dX7_requireTown_1 (by decide) (fun q1 => ?_) (fun q1 => ?_)
  · rw [if_pos q1] at h
    exact h_mask [false, false] (b_X7_requireTown_15 X Q  h E)
  · rw [if_neg q1] at h
    refine h_iload_n dX7_requireTown_4 rfl ?_
    refine h_aload_n dX7_requireTown_5 rfl ?_
    refine g_X7_16  dX7_requireTown_6 ?_
    obtain ⟨g1, h⟩ := gd_some h
    have w1 := of_decide_eq_true g1
    refine g_X7_97 (by omega) dX7_requireTown_9 ?_
    refine h_icmp_lt (tgt := 26) dX7_requireTown_12 (by decide) (fun q2 => ?_) (fun q2 => ?_)
    · rw [if_pos q2] at h
      cases h
      exact h_vret dX7_requireTown_26 rfl E
    · rw [if_neg q2] at h
      exact h_mask [false, false] (b_X7_requireTown_15 X Q  h E)
theorem bx_X7_requireTown (X : CX) (Q : State → Prop) {I : Mem} {P : PMem} {O : Nat → Int64} {D : Bool} {n : Nat} {v1 : Int32} {r : Nat}  (h : f_X7_requireTown I P v1 = some (Sum.inr r)) (E : EndX X cX7_requireTown RX7 2 (none) 8 (n + 1) r I P O D Q) : Here X cX7_requireTown RX7 2 (none) 8 (n + 1) 0 [some (.inr (.inr (7, 0, 0))), some (.inl v1)] [] I P O D n Q := by
  unfold f_X7_requireTown at h
  refine h_iload_n dX7_requireTown_0 rfl ?_
  refine h_if_lt (tgt := 15) dX7_requireTown_1 (by decide) (fun q1 => ?_) (fun q1 => ?_)
  · rw [if_pos q1] at h
    exact h_mask [false, false] (bx_X7_requireTown_15 X Q  h E)
  · rw [if_neg q1] at h
    refine h_iload_n dX7_requireTown_4 rfl ?_
    refine h_aload_n dX7_requireTown_5 rfl ?_
    refine g_X7_16  dX7_requireTown_6 ?_
    obtain ⟨g1, h⟩ := gd_some h
    have w1 := of_decide_eq_true g1
    refine g_X7_97 (by omega) dX7_requireTown_9 ?_
    refine h_icmp_lt (tgt := 26) dX7_requireTown_12 (by decide) (fun q2 => ?_) (fun q2 => ?_)
    · rw [if_pos q2] at h
      cases h
    · rw [if_neg q2] at h
      exact h_mask [false, false] (bx_X7_requireTown_15 X Q  h E)
theorem m_X7_requireTown {I : Mem} {P : PMem} {O : Nat → Int64} {D : Bool} {n : Nat} {v1 : Int32} {r : (Unit)}  (h : f_X7_requireTown I P v1 = some (Sum.inl r)) : MethR yX7_requireTown cX7_requireTown 2 (none) 8 [.inr (.inr (7, 0, 0)), .inl v1] I P O D n none I P O D n := meth_R (Nat.le_refl _) (by decide) rfl (Nat.le_of_ble_eq_true rfl) rfl (fun X Q E => b_X7_requireTown X Q  h E)
theorem mx_X7_requireTown {I : Mem} {P : PMem} {O : Nat → Int64} {D : Bool} {n : Nat} {v1 : Int32} {r : Nat}  (h : f_X7_requireTown I P v1 = some (Sum.inr r)) : MethX yX7_requireTown cX7_requireTown 2 (none) 8 [.inr (.inr (7, 0, 0)), .inl v1] I P O D n r I P O D (n + 1) := meth_X (Nat.le_succ _) (by decide) rfl (Nat.le_of_ble_eq_true rfl) rfl (fun X Q E => bx_X7_requireTown X Q  h E)
def f_X7_isOutside  (I : Mem) (v0 : Int32) (v1 : Int32) : Option (Int32) :=
  if v0 < 0 then (some (1 : Int32)) else (if v0 ≤ v1 then (some (0 : Int32)) else (some (1 : Int32)))
theorem b_X7_isOutside (X : CX) (Q : State → Prop) {I : Mem} {P : PMem} {O : Nat → Int64} {D : Bool} {n : Nat} {v0 : Int32} {v1 : Int32} {r : (Int32)}  (h : f_X7_isOutside I v0 v1 = some r) (E : EndR X cX7_isOutside RX7 2 (some .boolean) 2 n (some (.inl r)) I P O D Q) : Here X cX7_isOutside RX7 2 (some .boolean) 2 n 0 [some (.inl v0), some (.inl v1)] [] I P O D n Q := by
  unfold f_X7_isOutside at h
  refine h_iload_n dX7_isOutside_0 rfl ?_
  refine h_if_lt (tgt := 9) dX7_isOutside_1 (by decide) (fun q1 => ?_) (fun q1 => ?_)
  · rw [if_pos q1] at h
    refine h_iconst (1 : Int32) dX7_isOutside_9 k_iconst_1 ?_
    refine h_goto (tgt := 14) dX7_isOutside_10 (by decide) ?_
    cases h
    exact h_zret dX7_isOutside_14 rfl rfl E
  · rw [if_neg q1] at h
    refine h_iload_n dX7_isOutside_4 rfl ?_
    refine h_iload_n dX7_isOutside_5 rfl ?_
    refine h_icmp_le (tgt := 13) dX7_isOutside_6 (by decide) (fun q2 => ?_) (fun q2 => ?_)
    · rw [if_pos q2] at h
      refine h_iconst (0 : Int32) dX7_isOutside_13 k_iconst_0 ?_
      cases h
      exact h_zret dX7_isOutside_14 rfl rfl E
    · rw [if_neg q2] at h
      refine h_iconst (1 : Int32) dX7_isOutside_9 k_iconst_1 ?_
      refine h_goto (tgt := 14) dX7_isOutside_10 (by decide) ?_
      cases h
      exact h_zret dX7_isOutside_14 rfl rfl E
theorem m_X7_isOutside {I : Mem} {P : PMem} {O : Nat → Int64} {D : Bool} {n : Nat} {v0 : Int32} {v1 : Int32} {r : (Int32)}  (h : f_X7_isOutside I v0 v1 = some r) : MethR yX7_isOutside cX7_isOutside 2 (some .boolean) 2 [.inl v0, .inl v1] I P O D n (some (.inl r)) I P O D n := meth_R (Nat.le_refl _) (by decide) rfl (Nat.le_of_ble_eq_true rfl) rfl (fun X Q E => b_X7_isOutside X Q  h E)
def f_X7_requireWhat  (I : Mem) (v0 : Int32) (v1 : Int32) : Option ((Unit) ⊕ Nat) :=
  (f_X7_isOutside I v0 v1).bind fun y1 =>
  if y1 = 0 then (some (Sum.inl ())) else (some (Sum.inr 1))
theorem b_X7_requireWhat (X : CX) (Q : State → Prop) {I : Mem} {P : PMem} {O : Nat → Int64} {D : Bool} {n : Nat} {v0 : Int32} {v1 : Int32} {r : (Unit)}  (h : f_X7_requireWhat I v0 v1 = some (Sum.inl r)) (E : EndR X cX7_requireWhat RX7 2 (none) 8 n none I P O D Q) : Here X cX7_requireWhat RX7 2 (none) 8 n 0 [some (.inl v0), some (.inl v1)] [] I P O D n Q := by
  unfold f_X7_requireWhat at h
  refine h_iload_n dX7_requireWhat_0 rfl ?_
  refine h_iload_n dX7_requireWhat_1 rfl ?_
  obtain ⟨y1, hh1, h⟩ := obd_some h
  refine h_cSi [.inl v0, .inl v1] (m_X7_isOutside  hh1) cs_X7_226 dX7_requireWhat_2 rfl (by decide) rfl (Or.inr rfl) rfl ?_
  refine h_if_eq (tgt := 19) dX7_requireWhat_5 (by decide) (fun q1 => ?_) (fun q1 => ?_)
  · rw [if_pos q1] at h
    cases h
    exact h_vret dX7_requireWhat_19 rfl E
  · rw [if_neg q1] at h
    cases h
theorem bx_X7_requireWhat (X : CX) (Q : State → Prop) {I : Mem} {P : PMem} {O : Nat → Int64} {D : Bool} {n : Nat} {v0 : Int32} {v1 : Int32} {r : Nat}  (h : f_X7_requireWhat I v0 v1 = some (Sum.inr r)) (E : EndX X cX7_requireWhat RX7 2 (none) 8 (n + 1) r I P O D Q) : Here X cX7_requireWhat RX7 2 (none) 8 (n + 1) 0 [some (.inl v0), some (.inl v1)] [] I P O D n Q := by
  unfold f_X7_requireWhat at h
  refine h_iload_n dX7_requireWhat_0 rfl ?_
  refine h_iload_n dX7_requireWhat_1 rfl ?_
  obtain ⟨y1, hh1, h⟩ := obd_some h
  refine h_cSi [.inl v0, .inl v1] (m_X7_isOutside  hh1) cs_X7_226 dX7_requireWhat_2 rfl (by decide) rfl (Or.inr rfl) rfl ?_
  refine h_if_eq (tgt := 19) dX7_requireWhat_5 (by decide) (fun q1 => ?_) (fun q1 => ?_)
  · rw [if_pos q1] at h
    cases h
  · rw [if_neg q1] at h
    cases h
    exact h_throwW (text := "no such what") (j := 19) tw_1 (by decide) (by decide) rfl dX7_requireWhat_8 dX7_requireWhat_11 dX7_requireWhat_12 dX7_requireWhat_15 dX7_requireWhat_18 E
theorem m_X7_requireWhat {I : Mem} {P : PMem} {O : Nat → Int64} {D : Bool} {n : Nat} {v0 : Int32} {v1 : Int32} {r : (Unit)}  (h : f_X7_requireWhat I v0 v1 = some (Sum.inl r)) : MethR yX7_requireWhat cX7_requireWhat 2 (none) 8 [.inl v0, .inl v1] I P O D n none I P O D n := meth_R (Nat.le_refl _) (by decide) rfl (Nat.le_of_ble_eq_true rfl) rfl (fun X Q E => b_X7_requireWhat X Q  h E)
theorem mx_X7_requireWhat {I : Mem} {P : PMem} {O : Nat → Int64} {D : Bool} {n : Nat} {v0 : Int32} {v1 : Int32} {r : Nat}  (h : f_X7_requireWhat I v0 v1 = some (Sum.inr r)) : MethX yX7_requireWhat cX7_requireWhat 2 (none) 8 [.inl v0, .inl v1] I P O D n r I P O D (n + 1) := meth_X (Nat.le_succ _) (by decide) rfl (Nat.le_of_ble_eq_true rfl) rfl (fun X Q E => bx_X7_requireWhat X Q  h E)
def f_X7_far  (I : Mem) (P : PMem) (v1 : Int32) (v2 : Int32) (v3 : Int32) : Option ((Int32) ⊕ Nat) :=
  thb (f_X7_requireTown I P v1) fun y1 =>
  thb (f_X7_requireTown I P v2) fun y2 =>
  thb (f_X7_requireWhat I v3 (1 : Int32)) fun y3 =>
  if v3 = 0 then (gd (decide ((P 7 0 0 2) < 2)) <|
  gd (inb v1 9) <|
  gd (inb v2 9) <|
  some (Sum.inl (I 30 (P 7 0 0 2) v1.toNatClampNeg v2.toNatClampNeg))) else (gd (decide ((P 7 0 0 2) < 2)) <|
  gd (inb v1 9) <|
  gd (inb v2 9) <|
  some (Sum.inl (I 32 (P 7 0 0 2) v1.toNatClampNeg v2.toNatClampNeg)))
theorem b_X7_far (X : CX) (Q : State → Prop) {I : Mem} {P : PMem} {O : Nat → Int64} {D : Bool} {n : Nat} {v1 : Int32} {v2 : Int32} {v3 : Int32} {r : (Int32)}  (h : f_X7_far I P v1 v2 v3 = some (Sum.inl r)) (E : EndR X cX7_far RX7 4 (some .int) 9 n (some (.inl r)) I P O D Q) : Here X cX7_far RX7 4 (some .int) 9 n 0 [some (.inr (.inr (7, 0, 0))), some (.inl v1), some (.inl v2), some (.inl v3)] [] I P O D n Q := by
  unfold f_X7_far at h
  refine h_aload_n dX7_far_0 rfl ?_
  refine h_iload_n dX7_far_1 rfl ?_
  obtain ⟨y1, hh1, h⟩ := thb_R h
  refine h_cVv [.inl v1] (m_X7_requireTown  hh1) cw_X7_149 dX7_far_2 rfl ok_7 (by decide) rfl (Or.inr rfl) rfl ?_
  refine h_aload_n dX7_far_5 rfl ?_
  refine h_iload_n dX7_far_6 rfl ?_
  obtain ⟨y2, hh2, h⟩ := thb_R h
  refine h_cVv [.inl v2] (m_X7_requireTown  hh2) cw_X7_149 dX7_far_7 rfl ok_7 (by decide) rfl (Or.inr rfl) rfl ?_
  refine h_iload_n dX7_far_10 rfl ?_
  refine h_iconst (1 : Int32) dX7_far_11 k_iconst_1 ?_
  obtain ⟨y3, hh3, h⟩ := thb_R h
  refine h_cSv [.inl v3, .inl (1 : Int32)] (m_X7_requireWhat  hh3) cs_X7_152 dX7_far_12 rfl (by decide) rfl (Or.inr rfl) rfl ?_
  refine h_iload_n dX7_far_15 rfl ?_
  refine h_if_ne (tgt := 33) dX7_far_16 (by decide) (fun q1 => ?_) (fun q1 => ?_)
  · rw [if_neg q1] at h
    refine h_aload_n dX7_far_33 rfl ?_
    refine g_X7_16  dX7_far_34 ?_
    obtain ⟨g1, h⟩ := gd_some h
    have w1 := of_decide_eq_true g1
    refine g_X7_160 (by omega) dX7_far_37 ?_
    refine h_iload_n dX7_far_40 rfl ?_
    obtain ⟨g2, h⟩ := gd_some h
    refine ag_31 (by omega) v1.toNatClampNeg rfl dX7_far_41 g2 ?_
    have w2 := inb_lt g2
    refine h_iload_n dX7_far_42 rfl ?_
    obtain ⟨g3, h⟩ := gd_some h
    refine al_32 (by omega) (by omega) v2.toNatClampNeg rfl dX7_far_43 g3 ?_
    cases h
    exact h_iret dX7_far_44 rfl E
  · rw [if_pos q1] at h
    refine h_aload_n dX7_far_19 rfl ?_
    refine g_X7_16  dX7_far_20 ?_
    obtain ⟨g4, h⟩ := gd_some h
    have w3 := of_decide_eq_true g4
    refine g_X7_156 (by omega) dX7_far_23 ?_
    refine h_iload_n dX7_far_26 rfl ?_
    obtain ⟨g5, h⟩ := gd_some h
    refine ag_29 (by omega) v1.toNatClampNeg rfl dX7_far_27 g5 ?_
    have w4 := inb_lt g5
    refine h_iload_n dX7_far_28 rfl ?_
    obtain ⟨g6, h⟩ := gd_some h
    refine al_30 (by omega) (by omega) v2.toNatClampNeg rfl dX7_far_29 g6 ?_
    refine h_goto (tgt := 44) dX7_far_30 (by decide) ?_
    cases h
    exact h_iret dX7_far_44 rfl E
theorem bx_X7_far (X : CX) (Q : State → Prop) {I : Mem} {P : PMem} {O : Nat → Int64} {D : Bool} {n : Nat} {v1 : Int32} {v2 : Int32} {v3 : Int32} {r : Nat}  (h : f_X7_far I P v1 v2 v3 = some (Sum.inr r)) (E : EndX X cX7_far RX7 4 (some .int) 9 (n + 1) r I P O D Q) : Here X cX7_far RX7 4 (some .int) 9 (n + 1) 0 [some (.inr (.inr (7, 0, 0))), some (.inl v1), some (.inl v2), some (.inl v3)] [] I P O D n Q := by
  unfold f_X7_far at h
  refine h_aload_n dX7_far_0 rfl ?_
  refine h_iload_n dX7_far_1 rfl ?_
  rcases thb_X h with hh1 | ⟨y1, hh1, h⟩
  · exact h_callVX (as := [.inl v1]) (mx_X7_requireTown  hh1) cw_X7_149 dX7_far_2 rfl ok_7 (by decide) rfl rfl E
  refine h_cVv [.inl v1] (m_X7_requireTown  hh1) cw_X7_149 dX7_far_2 rfl ok_7 (by decide) rfl (Or.inr rfl) rfl ?_
  refine h_aload_n dX7_far_5 rfl ?_
  refine h_iload_n dX7_far_6 rfl ?_
  rcases thb_X h with hh2 | ⟨y2, hh2, h⟩
  · exact h_callVX (as := [.inl v2]) (mx_X7_requireTown  hh2) cw_X7_149 dX7_far_7 rfl ok_7 (by decide) rfl rfl E
  refine h_cVv [.inl v2] (m_X7_requireTown  hh2) cw_X7_149 dX7_far_7 rfl ok_7 (by decide) rfl (Or.inr rfl) rfl ?_
  refine h_iload_n dX7_far_10 rfl ?_
  refine h_iconst (1 : Int32) dX7_far_11 k_iconst_1 ?_
  rcases thb_X h with hh3 | ⟨y3, hh3, h⟩
  · exact h_callSX (as := [.inl v3, .inl (1 : Int32)]) (mx_X7_requireWhat  hh3) cs_X7_152 dX7_far_12 rfl (by decide) rfl rfl E
  refine h_cSv [.inl v3, .inl (1 : Int32)] (m_X7_requireWhat  hh3) cs_X7_152 dX7_far_12 rfl (by decide) rfl (Or.inr rfl) rfl ?_
  refine h_iload_n dX7_far_15 rfl ?_
  refine h_if_ne (tgt := 33) dX7_far_16 (by decide) (fun q1 => ?_) (fun q1 => ?_)
  · rw [if_neg q1] at h
    refine h_aload_n dX7_far_33 rfl ?_
    refine g_X7_16  dX7_far_34 ?_
    obtain ⟨g1, h⟩ := gd_some h
    have w1 := of_decide_eq_true g1
    refine g_X7_160 (by omega) dX7_far_37 ?_
    refine h_iload_n dX7_far_40 rfl ?_
    obtain ⟨g2, h⟩ := gd_some h
    refine ag_31 (by omega) v1.toNatClampNeg rfl dX7_far_41 g2 ?_
    have w2 := inb_lt g2
    refine h_iload_n dX7_far_42 rfl ?_
    obtain ⟨g3, h⟩ := gd_some h
    refine al_32 (by omega) (by omega) v2.toNatClampNeg rfl dX7_far_43 g3 ?_
    cases h
  · rw [if_pos q1] at h
    refine h_aload_n dX7_far_19 rfl ?_
    refine g_X7_16  dX7_far_20 ?_
    obtain ⟨g4, h⟩ := gd_some h
    have w3 := of_decide_eq_true g4
    refine g_X7_156 (by omega) dX7_far_23 ?_
    refine h_iload_n dX7_far_26 rfl ?_
    obtain ⟨g5, h⟩ := gd_some h
    refine ag_29 (by omega) v1.toNatClampNeg rfl dX7_far_27 g5 ?_
    have w4 := inb_lt g5
    refine h_iload_n dX7_far_28 rfl ?_
    obtain ⟨g6, h⟩ := gd_some h
    refine al_30 (by omega) (by omega) v2.toNatClampNeg rfl dX7_far_29 g6 ?_
    refine h_goto (tgt := 44) dX7_far_30 (by decide) ?_
    cases h
theorem m_X7_far {I : Mem} {P : PMem} {O : Nat → Int64} {D : Bool} {n : Nat} {v1 : Int32} {v2 : Int32} {v3 : Int32} {r : (Int32)}  (h : f_X7_far I P v1 v2 v3 = some (Sum.inl r)) : MethR yX7_far cX7_far 4 (some .int) 9 [.inr (.inr (7, 0, 0)), .inl v1, .inl v2, .inl v3] I P O D n (some (.inl r)) I P O D n := meth_R (Nat.le_refl _) (by decide) rfl (Nat.le_of_ble_eq_true rfl) rfl (fun X Q E => b_X7_far X Q  h E)
theorem mx_X7_far {I : Mem} {P : PMem} {O : Nat → Int64} {D : Bool} {n : Nat} {v1 : Int32} {v2 : Int32} {v3 : Int32} {r : Nat}  (h : f_X7_far I P v1 v2 v3 = some (Sum.inr r)) : MethX yX7_far cX7_far 4 (some .int) 9 [.inr (.inr (7, 0, 0)), .inl v1, .inl v2, .inl v3] I P O D n r I P O D (n + 1) := meth_X (Nat.le_succ _) (by decide) rfl (Nat.le_of_ble_eq_true rfl) rfl (fun X Q E => bx_X7_far X Q  h E)
def f_X7_requireJudge_15  (I : Mem) (P : PMem)  : Option ((Unit) ⊕ Nat) :=
  some (Sum.inr 1)
theorem b_X7_requireJudge_15 (X : CX) (Q : State → Prop) {I : Mem} {P : PMem} {O : Nat → Int64} {D : Bool} {n : Nat} {r : (Unit)}  (h : f_X7_requireJudge_15 I P = some (Sum.inl r)) (E : EndR X cX7_requireJudge RX7 2 (none) 8 n none I P O D Q) : Here X cX7_requireJudge RX7 2 (none) 8 n 15 [none, none] [] I P O D n Q := by
  unfold f_X7_requireJudge_15 at h
  cases h
theorem bx_X7_requireJudge_15 (X : CX) (Q : State → Prop) {I : Mem} {P : PMem} {O : Nat → Int64} {D : Bool} {n : Nat} {r : Nat}  (h : f_X7_requireJudge_15 I P = some (Sum.inr r)) (E : EndX X cX7_requireJudge RX7 2 (none) 8 (n + 1) r I P O D Q) : Here X cX7_requireJudge RX7 2 (none) 8 (n + 1) 15 [none, none] [] I P O D n Q := by
  unfold f_X7_requireJudge_15 at h
  cases h
  exact h_throwW (text := "no such judge") (j := 16) tw_1 (by decide) (by decide) rfl dX7_requireJudge_15 dX7_requireJudge_18 dX7_requireJudge_19 dX7_requireJudge_22 dX7_requireJudge_25 E
def f_X7_requireJudge  (I : Mem) (P : PMem) (v1 : Int32) : Option ((Unit) ⊕ Nat) :=
  if v1 < 0 then (f_X7_requireJudge_15 I P ) else (gd (decide ((P 7 0 0 2) < 2)) <|
  if v1 < (I 3 (P 7 0 0 2) 0 7) then (some (Sum.inl ())) else (f_X7_requireJudge_15 I P ))
theorem b_X7_requireJudge (X : CX) (Q : State → Prop) {I : Mem} {P : PMem} {O : Nat → Int64} {D : Bool} {n : Nat} {v1 : Int32} {r : (Unit)}  (h : f_X7_requireJudge I P v1 = some (Sum.inl r)) (E : EndR X cX7_requireJudge RX7 2 (none) 8 n none I P O D Q) : Here X cX7_requireJudge RX7 2 (none) 8 n 0 [some (.inr (.inr (7, 0, 0))), some (.inl v1)] [] I P O D n Q := by
  unfold f_X7_requireJudge at h
  refine h_iload_n dX7_requireJudge_0 rfl ?_
  refine h_if_lt (tgt := 15) dX7_requireJudge_1 (by decide) (fun q1 => ?_) (fun q1 => ?_)
  · rw [if_pos q1] at h
    exact h_mask [false, false] (b_X7_requireJudge_15 X Q  h E)
  · rw [if_neg q1] at h
    refine h_iload_n dX7_requireJudge_4 rfl ?_
    refine h_aload_n dX7_requireJudge_5 rfl ?_
    refine g_X7_16  dX7_requireJudge_6 ?_
    obtain ⟨g1, h⟩ := gd_some h
    have w1 := of_decide_eq_true g1
    refine g_X7_107 (by omega) dX7_requireJudge_9 ?_
    refine h_icmp_lt (tgt := 26) dX7_requireJudge_12 (by decide) (fun q2 => ?_) (fun q2 => ?_)
    · rw [if_pos q2] at h
      cases h
      exact h_vret dX7_requireJudge_26 rfl E
    · rw [if_neg q2] at h
      exact h_mask [false, false] (b_X7_requireJudge_15 X Q  h E)
theorem bx_X7_requireJudge (X : CX) (Q : State → Prop) {I : Mem} {P : PMem} {O : Nat → Int64} {D : Bool} {n : Nat} {v1 : Int32} {r : Nat}  (h : f_X7_requireJudge I P v1 = some (Sum.inr r)) (E : EndX X cX7_requireJudge RX7 2 (none) 8 (n + 1) r I P O D Q) : Here X cX7_requireJudge RX7 2 (none) 8 (n + 1) 0 [some (.inr (.inr (7, 0, 0))), some (.inl v1)] [] I P O D n Q := by
  unfold f_X7_requireJudge at h
  refine h_iload_n dX7_requireJudge_0 rfl ?_
  refine h_if_lt (tgt := 15) dX7_requireJudge_1 (by decide) (fun q1 => ?_) (fun q1 => ?_)
  · rw [if_pos q1] at h
    exact h_mask [false, false] (bx_X7_requireJudge_15 X Q  h E)
  · rw [if_neg q1] at h
    refine h_iload_n dX7_requireJudge_4 rfl ?_
    refine h_aload_n dX7_requireJudge_5 rfl ?_
    refine g_X7_16  dX7_requireJudge_6 ?_
    obtain ⟨g1, h⟩ := gd_some h
    have w1 := of_decide_eq_true g1
    refine g_X7_107 (by omega) dX7_requireJudge_9 ?_
    refine h_icmp_lt (tgt := 26) dX7_requireJudge_12 (by decide) (fun q2 => ?_) (fun q2 => ?_)
    · rw [if_pos q2] at h
      cases h
    · rw [if_neg q2] at h
      exact h_mask [false, false] (bx_X7_requireJudge_15 X Q  h E)
theorem m_X7_requireJudge {I : Mem} {P : PMem} {O : Nat → Int64} {D : Bool} {n : Nat} {v1 : Int32} {r : (Unit)}  (h : f_X7_requireJudge I P v1 = some (Sum.inl r)) : MethR yX7_requireJudge cX7_requireJudge 2 (none) 8 [.inr (.inr (7, 0, 0)), .inl v1] I P O D n none I P O D n := meth_R (Nat.le_refl _) (by decide) rfl (Nat.le_of_ble_eq_true rfl) rfl (fun X Q E => b_X7_requireJudge X Q  h E)
theorem mx_X7_requireJudge {I : Mem} {P : PMem} {O : Nat → Int64} {D : Bool} {n : Nat} {v1 : Int32} {r : Nat}  (h : f_X7_requireJudge I P v1 = some (Sum.inr r)) : MethX yX7_requireJudge cX7_requireJudge 2 (none) 8 [.inr (.inr (7, 0, 0)), .inl v1] I P O D n r I P O D (n + 1) := meth_X (Nat.le_succ _) (by decide) rfl (Nat.le_of_ble_eq_true rfl) rfl (fun X Q E => bx_X7_requireJudge X Q  h E)
def f_X7_judge   (I : Mem) (P : PMem) (v1 : Int32) (v2 : Int32) : Option ((Int32 × Mem × PMem) ⊕ Nat) :=
  thb (f_X7_requireJudge I P v1) fun y1 =>
  thb (f_X7_requireWhat I v2 (4 : Int32)) fun y2 =>
  (if v2 = (0 : Int32) then (gd (decide ((P 7 0 0 2) < 2)) <|
  gd (inb v1 5) <|
  some (Sum.inl ((I 33 (P 7 0 0 2) 0 v1.toNatClampNeg), I, P))) else (if v2 = (1 : Int32) then (gd (inb v1 5) <|
  some (Sum.inl ((I 9 0 0 v1.toNatClampNeg), I, P))) else (if v2 = (2 : Int32) then (gd (decide ((P 7 0 0 2) < 2)) <|
  gd (inb v1 5) <|
  some (Sum.inl ((I 35 (P 7 0 0 2) 0 v1.toNatClampNeg), I, P))) else (if v2 = (3 : Int32) then (gd (decide ((P 7 0 0 2) < 2)) <|
  gd (inb v1 5) <|
  some (Sum.inl ((I 36 (P 7 0 0 2) 0 v1.toNatClampNeg), I, P))) else ((f_X7_settledCourt I P).bind fun y3 =>
  (f_X1_lastDay y3.1 y3.2 0 v1).bind fun y4 =>
  some (Sum.inl (y4, y3.1, y3.2)))))))
theorem b_X7_judge (X : CX) (Q : State → Prop) {I : Mem} {P : PMem} {O : Nat → Int64} {D : Bool} {n : Nat} {v1 : Int32} {v2 : Int32} {r : (Int32 × Mem × PMem)}  (h : f_X7_judge I P v1 v2 = some (Sum.inl r)) (E : EndR X cX7_judge RX7 3 (some .int) 9 n (some (.inl r.1)) r.2.1 r.2.2 O D Q) : Here X cX7_judge RX7 3 (some .int) 9 n 0 [some (.inr (.inr (7, 0, 0))), some (.inl v1), some (.inl v2)] [] I P O D n Q := by
  unfold f_X7_judge at h
  refine h_aload_n dX7_judge_0 rfl ?_
  refine h_iload_n dX7_judge_1 rfl ?_
  obtain ⟨y1, hh1, h⟩ := thb_R h
  refine h_cVv [.inl v1] (m_X7_requireJudge  hh1) cw_X7_163 dX7_judge_2 rfl ok_7 (by decide) rfl (Or.inr rfl) rfl ?_
  refine h_iload_n dX7_judge_5 rfl ?_
  refine h_iconst (4 : Int32) dX7_judge_6 k_iconst_4 ?_
  obtain ⟨y2, hh2, h⟩ := thb_R h
  refine h_cSv [.inl v2, .inl (4 : Int32)] (m_X7_requireWhat  hh2) cs_X7_152 dX7_judge_7 rfl (by decide) rfl (Or.inr rfl) rfl ?_
  refine h_iload_n dX7_judge_10 rfl ?_
  by_cases q1 : v2 = (0 : Int32)
  · rw [if_pos q1] at h
    refine h_tswIn (tgt := 40) 0 dX7_judge_11 (by rw [q1]; decide) (by decide) rfl (by decide) ?_
    refine h_aload_n dX7_judge_40 rfl ?_
    refine g_X7_16  dX7_judge_41 ?_
    obtain ⟨g1, h⟩ := gd_some h
    have w1 := of_decide_eq_true g1
    refine g_X7_166 (by omega) dX7_judge_44 ?_
    refine h_iload_n dX7_judge_47 rfl ?_
    obtain ⟨g2, h⟩ := gd_some h
    refine al_33 (by omega) v1.toNatClampNeg rfl dX7_judge_48 g2 ?_
    cases h
    exact h_iret dX7_judge_49 rfl E
  · rw [if_neg q1] at h
    by_cases q2 : v2 = (1 : Int32)
    · rw [if_pos q2] at h
      refine h_tswIn (tgt := 50) 1 dX7_judge_11 (by rw [q2]; decide) (by decide) rfl (by decide) ?_
      refine h_aload_n dX7_judge_50 rfl ?_
      refine g_X7_35  dX7_judge_51 ?_
      refine g_X7_169 (by decide) dX7_judge_54 ?_
      refine h_iload_n dX7_judge_57 rfl ?_
      obtain ⟨g3, h⟩ := gd_some h
      refine al_9 (by decide) v1.toNatClampNeg rfl dX7_judge_58 g3 ?_
      cases h
      exact h_iret dX7_judge_59 rfl E
    · rw [if_neg q2] at h
      by_cases q3 : v2 = (2 : Int32)
      · rw [if_pos q3] at h
        refine h_tswIn (tgt := 60) 2 dX7_judge_11 (by rw [q3]; decide) (by decide) rfl (by decide) ?_
        refine h_aload_n dX7_judge_60 rfl ?_
        refine g_X7_16  dX7_judge_61 ?_
        obtain ⟨g4, h⟩ := gd_some h
        have w2 := of_decide_eq_true g4
        refine g_X7_172 (by omega) dX7_judge_64 ?_
        refine h_iload_n dX7_judge_67 rfl ?_
        obtain ⟨g5, h⟩ := gd_some h
        refine al_35 (by omega) v1.toNatClampNeg rfl dX7_judge_68 g5 ?_
        cases h
        exact h_iret dX7_judge_69 rfl E
      · rw [if_neg q3] at h
        by_cases q4 : v2 = (3 : Int32)
        · rw [if_pos q4] at h
          refine h_tswIn (tgt := 70) 3 dX7_judge_11 (by rw [q4]; decide) (by decide) rfl (by decide) ?_
          refine h_aload_n dX7_judge_70 rfl ?_
          refine g_X7_16  dX7_judge_71 ?_
          obtain ⟨g6, h⟩ := gd_some h
          have w3 := of_decide_eq_true g6
          refine g_X7_175 (by omega) dX7_judge_74 ?_
          refine h_iload_n dX7_judge_77 rfl ?_
          obtain ⟨g7, h⟩ := gd_some h
          refine al_36 (by omega) v1.toNatClampNeg rfl dX7_judge_78 g7 ?_
          cases h
          exact h_iret dX7_judge_79 rfl E
        · rw [if_neg q4] at h
          refine h_tswOut (tgt := 80) dX7_judge_11 ?_ (by decide) ?_
          · have n0 : v2.toInt ≠ 0 := fun e => q1 (Int32.toInt_inj.mp (e.trans (by decide)))
            have n1 : v2.toInt ≠ 1 := fun e => q2 (Int32.toInt_inj.mp (e.trans (by decide)))
            have n2 : v2.toInt ≠ 2 := fun e => q3 (Int32.toInt_inj.mp (e.trans (by decide)))
            have n3 : v2.toInt ≠ 3 := fun e => q4 (Int32.toInt_inj.mp (e.trans (by decide)))
            omega
          · refine h_aload_n dX7_judge_80 rfl ?_
            obtain ⟨y3, hh3, h⟩ := obd_some h
            refine h_cVa [] (m_X7_settledCourt  hh3) cw_X7_131 dX7_judge_81 rfl ok_7 (by decide) rfl (Or.inr rfl) rfl ?_
            refine h_iload_n dX7_judge_84 rfl ?_
            obtain ⟨y4, hh4, h⟩ := obd_some h
            refine h_cVi [.inl v1] (m_X1_lastDay (by decide) hh4) cw_X7_178 dX7_judge_85 rfl (ok_1 (by decide)) (by decide) rfl (Or.inr rfl) rfl ?_
            cases h
            exact h_iret dX7_judge_88 rfl E
theorem bx_X7_judge (X : CX) (Q : State → Prop) {I : Mem} {P : PMem} {O : Nat → Int64} {D : Bool} {n : Nat} {v1 : Int32} {v2 : Int32} {r : Nat}  (h : f_X7_judge I P v1 v2 = some (Sum.inr r)) (E : EndX X cX7_judge RX7 3 (some .int) 9 (n + 1) r I P O D Q) : Here X cX7_judge RX7 3 (some .int) 9 (n + 1) 0 [some (.inr (.inr (7, 0, 0))), some (.inl v1), some (.inl v2)] [] I P O D n Q := by
  unfold f_X7_judge at h
  refine h_aload_n dX7_judge_0 rfl ?_
  refine h_iload_n dX7_judge_1 rfl ?_
  rcases thb_X h with hh1 | ⟨y1, hh1, h⟩
  · exact h_callVX (as := [.inl v1]) (mx_X7_requireJudge  hh1) cw_X7_163 dX7_judge_2 rfl ok_7 (by decide) rfl rfl E
  refine h_cVv [.inl v1] (m_X7_requireJudge  hh1) cw_X7_163 dX7_judge_2 rfl ok_7 (by decide) rfl (Or.inr rfl) rfl ?_
  refine h_iload_n dX7_judge_5 rfl ?_
  refine h_iconst (4 : Int32) dX7_judge_6 k_iconst_4 ?_
  rcases thb_X h with hh2 | ⟨y2, hh2, h⟩
  · exact h_callSX (as := [.inl v2, .inl (4 : Int32)]) (mx_X7_requireWhat  hh2) cs_X7_152 dX7_judge_7 rfl (by decide) rfl rfl E
  refine h_cSv [.inl v2, .inl (4 : Int32)] (m_X7_requireWhat  hh2) cs_X7_152 dX7_judge_7 rfl (by decide) rfl (Or.inr rfl) rfl ?_
  refine h_iload_n dX7_judge_10 rfl ?_
  by_cases q1 : v2 = (0 : Int32)
  · rw [if_pos q1] at h
    refine h_tswIn (tgt := 40) 0 dX7_judge_11 (by rw [q1]; decide) (by decide) rfl (by decide) ?_
    refine h_aload_n dX7_judge_40 rfl ?_
    refine g_X7_16  dX7_judge_41 ?_
    obtain ⟨g1, h⟩ := gd_some h
    have w1 := of_decide_eq_true g1
    refine g_X7_166 (by omega) dX7_judge_44 ?_
    refine h_iload_n dX7_judge_47 rfl ?_
    obtain ⟨g2, h⟩ := gd_some h
    refine al_33 (by omega) v1.toNatClampNeg rfl dX7_judge_48 g2 ?_
    cases h
  · rw [if_neg q1] at h
    by_cases q2 : v2 = (1 : Int32)
    · rw [if_pos q2] at h
      refine h_tswIn (tgt := 50) 1 dX7_judge_11 (by rw [q2]; decide) (by decide) rfl (by decide) ?_
      refine h_aload_n dX7_judge_50 rfl ?_
      refine g_X7_35  dX7_judge_51 ?_
      refine g_X7_169 (by decide) dX7_judge_54 ?_
      refine h_iload_n dX7_judge_57 rfl ?_
      obtain ⟨g3, h⟩ := gd_some h
      refine al_9 (by decide) v1.toNatClampNeg rfl dX7_judge_58 g3 ?_
      cases h
    · rw [if_neg q2] at h
      by_cases q3 : v2 = (2 : Int32)
      · rw [if_pos q3] at h
        refine h_tswIn (tgt := 60) 2 dX7_judge_11 (by rw [q3]; decide) (by decide) rfl (by decide) ?_
        refine h_aload_n dX7_judge_60 rfl ?_
        refine g_X7_16  dX7_judge_61 ?_
        obtain ⟨g4, h⟩ := gd_some h
        have w2 := of_decide_eq_true g4
        refine g_X7_172 (by omega) dX7_judge_64 ?_
        refine h_iload_n dX7_judge_67 rfl ?_
        obtain ⟨g5, h⟩ := gd_some h
        refine al_35 (by omega) v1.toNatClampNeg rfl dX7_judge_68 g5 ?_
        cases h
      · rw [if_neg q3] at h
        by_cases q4 : v2 = (3 : Int32)
        · rw [if_pos q4] at h
          refine h_tswIn (tgt := 70) 3 dX7_judge_11 (by rw [q4]; decide) (by decide) rfl (by decide) ?_
          refine h_aload_n dX7_judge_70 rfl ?_
          refine g_X7_16  dX7_judge_71 ?_
          obtain ⟨g6, h⟩ := gd_some h
          have w3 := of_decide_eq_true g6
          refine g_X7_175 (by omega) dX7_judge_74 ?_
          refine h_iload_n dX7_judge_77 rfl ?_
          obtain ⟨g7, h⟩ := gd_some h
          refine al_36 (by omega) v1.toNatClampNeg rfl dX7_judge_78 g7 ?_
          cases h
        · rw [if_neg q4] at h
          refine h_tswOut (tgt := 80) dX7_judge_11 ?_ (by decide) ?_
          · have n0 : v2.toInt ≠ 0 := fun e => q1 (Int32.toInt_inj.mp (e.trans (by decide)))
            have n1 : v2.toInt ≠ 1 := fun e => q2 (Int32.toInt_inj.mp (e.trans (by decide)))
            have n2 : v2.toInt ≠ 2 := fun e => q3 (Int32.toInt_inj.mp (e.trans (by decide)))
            have n3 : v2.toInt ≠ 3 := fun e => q4 (Int32.toInt_inj.mp (e.trans (by decide)))
            omega
          · refine h_aload_n dX7_judge_80 rfl ?_
            obtain ⟨y3, hh3, h⟩ := obd_some h
            refine h_cVa [] (m_X7_settledCourt  hh3) cw_X7_131 dX7_judge_81 rfl ok_7 (by decide) rfl (Or.inr rfl) rfl ?_
            refine h_iload_n dX7_judge_84 rfl ?_
            obtain ⟨y4, hh4, h⟩ := obd_some h
            refine h_cVi [.inl v1] (m_X1_lastDay (by decide) hh4) cw_X7_178 dX7_judge_85 rfl (ok_1 (by decide)) (by decide) rfl (Or.inr rfl) rfl ?_
            cases h
theorem m_X7_judge {I : Mem} {P : PMem} {O : Nat → Int64} {D : Bool} {n : Nat} {v1 : Int32} {v2 : Int32} {r : (Int32 × Mem × PMem)}  (h : f_X7_judge I P v1 v2 = some (Sum.inl r)) : MethR yX7_judge cX7_judge 3 (some .int) 9 [.inr (.inr (7, 0, 0)), .inl v1, .inl v2] I P O D n (some (.inl r.1)) r.2.1 r.2.2 O D n := meth_R (Nat.le_refl _) (by decide) rfl (Nat.le_of_ble_eq_true rfl) rfl (fun X Q E => b_X7_judge X Q  h E)
theorem mx_X7_judge {I : Mem} {P : PMem} {O : Nat → Int64} {D : Bool} {n : Nat} {v1 : Int32} {v2 : Int32} {r : Nat}  (h : f_X7_judge I P v1 v2 = some (Sum.inr r)) : MethX yX7_judge cX7_judge 3 (some .int) 9 [.inr (.inr (7, 0, 0)), .inl v1, .inl v2] I P O D n r I P O D (n + 1) := meth_X (Nat.le_succ _) (by decide) rfl (Nat.le_of_ble_eq_true rfl) rfl (fun X Q E => bx_X7_judge X Q  h E)
def f_X7_stop_27   (I : Mem) (P : PMem) : Option ((Int32 × Mem × PMem) ⊕ Nat) :=
  some (Sum.inr 1)
theorem b_X7_stop_27 (X : CX) (Q : State → Prop) {I : Mem} {P : PMem} {O : Nat → Int64} {D : Bool} {n : Nat} {r : (Int32 × Mem × PMem)}  (h : f_X7_stop_27 I P = some (Sum.inl r)) (E : EndR X cX7_stop RX7 4 (some .int) 9 n (some (.inl r.1)) r.2.1 r.2.2 O D Q) : Here X cX7_stop RX7 4 (some .int) 9 n 27 [none, none, none, none] [] I P O D n Q := by
  unfold f_X7_stop_27 at h
  cases h
theorem bx_X7_stop_27 (X : CX) (Q : State → Prop) {I : Mem} {P : PMem} {O : Nat → Int64} {D : Bool} {n : Nat} {r : Nat}  (h : f_X7_stop_27 I P = some (Sum.inr r)) (E : EndX X cX7_stop RX7 4 (some .int) 9 (n + 1) r I P O D Q) : Here X cX7_stop RX7 4 (some .int) 9 (n + 1) 27 [none, none, none, none] [] I P O D n Q := by
  unfold f_X7_stop_27 at h
  cases h
  exact h_throw (text := "no such stop") (j := 17) tw_1 (by decide) (by decide) rfl dX7_stop_27 dX7_stop_30 dX7_stop_31 dX7_stop_33 dX7_stop_36 E
def f_X7_stop   (I : Mem) (P : PMem) (v1 : Int32) (v2 : Int32) (v3 : Int32) : Option ((Int32 × Mem × PMem) ⊕ Nat) :=
  thb (f_X7_requireJudge I P v1) fun y1 =>
  thb (f_X7_requireWhat I v3 (1 : Int32)) fun y2 =>
  if v2 < 0 then (f_X7_stop_27 I P) else (gd (decide ((P 7 0 0 2) < 2)) <|
  gd (inb v1 5) <|
  if v2 < (I 36 (P 7 0 0 2) 0 v1.toNatClampNeg) then (if v3 = 0 then (gd (inb v2 7) <|
  some (Sum.inl ((I 38 (P 7 0 0 2) v1.toNatClampNeg v2.toNatClampNeg), I, P))) else ((f_X7_settledCourt I P).bind fun y3 =>
  gd (inb v2 7) <|
  some (Sum.inl ((y3.1 14 0 v1.toNatClampNeg v2.toNatClampNeg), y3.1, y3.2)))) else (f_X7_stop_27 I P))
theorem b_X7_stop (X : CX) (Q : State → Prop) {I : Mem} {P : PMem} {O : Nat → Int64} {D : Bool} {n : Nat} {v1 : Int32} {v2 : Int32} {v3 : Int32} {r : (Int32 × Mem × PMem)}  (h : f_X7_stop I P v1 v2 v3 = some (Sum.inl r)) (E : EndR X cX7_stop RX7 4 (some .int) 9 n (some (.inl r.1)) r.2.1 r.2.2 O D Q) : Here X cX7_stop RX7 4 (some .int) 9 n 0 [some (.inr (.inr (7, 0, 0))), some (.inl v1), some (.inl v2), some (.inl v3)] [] I P O D n Q := by
  unfold f_X7_stop at h
  refine h_aload_n dX7_stop_0 rfl ?_
  refine h_iload_n dX7_stop_1 rfl ?_
  obtain ⟨y1, hh1, h⟩ := thb_R h
  refine h_cVv [.inl v1] (m_X7_requireJudge  hh1) cw_X7_163 dX7_stop_2 rfl ok_7 (by decide) rfl (Or.inr rfl) rfl ?_
  refine h_iload_n dX7_stop_5 rfl ?_
  refine h_iconst (1 : Int32) dX7_stop_6 k_iconst_1 ?_
  obtain ⟨y2, hh2, h⟩ := thb_R h
  refine h_cSv [.inl v3, .inl (1 : Int32)] (m_X7_requireWhat  hh2) cs_X7_152 dX7_stop_7 rfl (by decide) rfl (Or.inr rfl) rfl ?_
  refine h_iload_n dX7_stop_10 rfl ?_
  refine h_if_lt (tgt := 27) dX7_stop_11 (by decide) (fun q1 => ?_) (fun q1 => ?_)
  · rw [if_pos q1] at h
    exact h_mask [false, false, false, false] (b_X7_stop_27 X Q  h E)
  · rw [if_neg q1] at h
    refine h_iload_n dX7_stop_14 rfl ?_
    refine h_aload_n dX7_stop_15 rfl ?_
    refine g_X7_16  dX7_stop_16 ?_
    obtain ⟨g1, h⟩ := gd_some h
    have w1 := of_decide_eq_true g1
    refine g_X7_175 (by omega) dX7_stop_19 ?_
    refine h_iload_n dX7_stop_22 rfl ?_
    obtain ⟨g2, h⟩ := gd_some h
    refine al_36 (by omega) v1.toNatClampNeg rfl dX7_stop_23 g2 ?_
    refine h_icmp_lt (tgt := 37) dX7_stop_24 (by decide) (fun q2 => ?_) (fun q2 => ?_)
    · rw [if_pos q2] at h
      refine h_iload_n dX7_stop_37 rfl ?_
      refine h_if_ne (tgt := 55) dX7_stop_38 (by decide) (fun q3 => ?_) (fun q3 => ?_)
      · rw [if_neg q3] at h
        refine h_aload_n dX7_stop_55 rfl ?_
        obtain ⟨y3, hh3, h⟩ := obd_some h
        refine h_cVa [] (m_X7_settledCourt  hh3) cw_X7_131 dX7_stop_56 rfl ok_7 (by decide) rfl (Or.inr rfl) rfl ?_
        refine g_X7_187 (by decide) dX7_stop_59 ?_
        refine h_iload_n dX7_stop_62 rfl ?_
        refine ag_13 (by decide) v1.toNatClampNeg rfl dX7_stop_63 g2 ?_
        have w2 := inb_lt g2
        refine h_iload_n dX7_stop_64 rfl ?_
        obtain ⟨g3, h⟩ := gd_some h
        refine al_14 (by decide) (by omega) v2.toNatClampNeg rfl dX7_stop_65 g3 ?_
        cases h
        exact h_iret dX7_stop_66 rfl E
      · rw [if_pos q3] at h
        refine h_aload_n dX7_stop_41 rfl ?_
        refine g_X7_16  dX7_stop_42 ?_
        refine g_X7_184 (by omega) dX7_stop_45 ?_
        refine h_iload_n dX7_stop_48 rfl ?_
        refine ag_37 (by omega) v1.toNatClampNeg rfl dX7_stop_49 g2 ?_
        have w3 := inb_lt g2
        refine h_iload_n dX7_stop_50 rfl ?_
        obtain ⟨g4, h⟩ := gd_some h
        refine al_38 (by omega) (by omega) v2.toNatClampNeg rfl dX7_stop_51 g4 ?_
        refine h_goto (tgt := 66) dX7_stop_52 (by decide) ?_
        cases h
        exact h_iret dX7_stop_66 rfl E
    · rw [if_neg q2] at h
      exact h_mask [false, false, false, false] (b_X7_stop_27 X Q  h E)
theorem bx_X7_stop (X : CX) (Q : State → Prop) {I : Mem} {P : PMem} {O : Nat → Int64} {D : Bool} {n : Nat} {v1 : Int32} {v2 : Int32} {v3 : Int32} {r : Nat}  (h : f_X7_stop I P v1 v2 v3 = some (Sum.inr r)) (E : EndX X cX7_stop RX7 4 (some .int) 9 (n + 1) r I P O D Q) : Here X cX7_stop RX7 4 (some .int) 9 (n + 1) 0 [some (.inr (.inr (7, 0, 0))), some (.inl v1), some (.inl v2), some (.inl v3)] [] I P O D n Q := by
  unfold f_X7_stop at h
  refine h_aload_n dX7_stop_0 rfl ?_
  refine h_iload_n dX7_stop_1 rfl ?_
  rcases thb_X h with hh1 | ⟨y1, hh1, h⟩
  · exact h_callVX (as := [.inl v1]) (mx_X7_requireJudge  hh1) cw_X7_163 dX7_stop_2 rfl ok_7 (by decide) rfl rfl E
  refine h_cVv [.inl v1] (m_X7_requireJudge  hh1) cw_X7_163 dX7_stop_2 rfl ok_7 (by decide) rfl (Or.inr rfl) rfl ?_
  refine h_iload_n dX7_stop_5 rfl ?_
  refine h_iconst (1 : Int32) dX7_stop_6 k_iconst_1 ?_
  rcases thb_X h with hh2 | ⟨y2, hh2, h⟩
  · exact h_callSX (as := [.inl v3, .inl (1 : Int32)]) (mx_X7_requireWhat  hh2) cs_X7_152 dX7_stop_7 rfl (by decide) rfl rfl E
  refine h_cSv [.inl v3, .inl (1 : Int32)] (m_X7_requireWhat  hh2) cs_X7_152 dX7_stop_7 rfl (by decide) rfl (Or.inr rfl) rfl ?_
  refine h_iload_n dX7_stop_10 rfl ?_
  refine h_if_lt (tgt := 27) dX7_stop_11 (by decide) (fun q1 => ?_) (fun q1 => ?_)
  · rw [if_pos q1] at h
    exact h_mask [false, false, false, false] (bx_X7_stop_27 X Q  h E)
  · rw [if_neg q1] at h
    refine h_iload_n dX7_stop_14 rfl ?_
    refine h_aload_n dX7_stop_15 rfl ?_
    refine g_X7_16  dX7_stop_16 ?_
    obtain ⟨g1, h⟩ := gd_some h
    have w1 := of_decide_eq_true g1
    refine g_X7_175 (by omega) dX7_stop_19 ?_
    refine h_iload_n dX7_stop_22 rfl ?_
    obtain ⟨g2, h⟩ := gd_some h
    refine al_36 (by omega) v1.toNatClampNeg rfl dX7_stop_23 g2 ?_
    refine h_icmp_lt (tgt := 37) dX7_stop_24 (by decide) (fun q2 => ?_) (fun q2 => ?_)
    · rw [if_pos q2] at h
      refine h_iload_n dX7_stop_37 rfl ?_
      refine h_if_ne (tgt := 55) dX7_stop_38 (by decide) (fun q3 => ?_) (fun q3 => ?_)
      · rw [if_neg q3] at h
        refine h_aload_n dX7_stop_55 rfl ?_
        obtain ⟨y3, hh3, h⟩ := obd_some h
        refine h_cVa [] (m_X7_settledCourt  hh3) cw_X7_131 dX7_stop_56 rfl ok_7 (by decide) rfl (Or.inr rfl) rfl ?_
        refine g_X7_187 (by decide) dX7_stop_59 ?_
        refine h_iload_n dX7_stop_62 rfl ?_
        refine ag_13 (by decide) v1.toNatClampNeg rfl dX7_stop_63 g2 ?_
        have w2 := inb_lt g2
        refine h_iload_n dX7_stop_64 rfl ?_
        obtain ⟨g3, h⟩ := gd_some h
        refine al_14 (by decide) (by omega) v2.toNatClampNeg rfl dX7_stop_65 g3 ?_
        cases h
      · rw [if_pos q3] at h
        refine h_aload_n dX7_stop_41 rfl ?_
        refine g_X7_16  dX7_stop_42 ?_
        refine g_X7_184 (by omega) dX7_stop_45 ?_
        refine h_iload_n dX7_stop_48 rfl ?_
        refine ag_37 (by omega) v1.toNatClampNeg rfl dX7_stop_49 g2 ?_
        have w3 := inb_lt g2
        refine h_iload_n dX7_stop_50 rfl ?_
        obtain ⟨g4, h⟩ := gd_some h
        refine al_38 (by omega) (by omega) v2.toNatClampNeg rfl dX7_stop_51 g4 ?_
        refine h_goto (tgt := 66) dX7_stop_52 (by decide) ?_
        cases h
    · rw [if_neg q2] at h
      exact h_mask [false, false, false, false] (bx_X7_stop_27 X Q  h E)
theorem m_X7_stop {I : Mem} {P : PMem} {O : Nat → Int64} {D : Bool} {n : Nat} {v1 : Int32} {v2 : Int32} {v3 : Int32} {r : (Int32 × Mem × PMem)}  (h : f_X7_stop I P v1 v2 v3 = some (Sum.inl r)) : MethR yX7_stop cX7_stop 4 (some .int) 9 [.inr (.inr (7, 0, 0)), .inl v1, .inl v2, .inl v3] I P O D n (some (.inl r.1)) r.2.1 r.2.2 O D n := meth_R (Nat.le_refl _) (by decide) rfl (Nat.le_of_ble_eq_true rfl) rfl (fun X Q E => b_X7_stop X Q  h E)
theorem mx_X7_stop {I : Mem} {P : PMem} {O : Nat → Int64} {D : Bool} {n : Nat} {v1 : Int32} {v2 : Int32} {v3 : Int32} {r : Nat}  (h : f_X7_stop I P v1 v2 v3 = some (Sum.inr r)) : MethX yX7_stop cX7_stop 4 (some .int) 9 [.inr (.inr (7, 0, 0)), .inl v1, .inl v2, .inl v3] I P O D n r I P O D (n + 1) := meth_X (Nat.le_succ _) (by decide) rfl (Nat.le_of_ble_eq_true rfl) rfl (fun X Q E => bx_X7_stop X Q  h E)
def f_X7_where   (I : Mem) (P : PMem) (v1 : Int32) (v2 : Int32) : Option ((Int32 × Mem × PMem) ⊕ Nat) :=
  thb (f_X7_requireJudge I P v1) fun y1 =>
  (f_X7_settledCourt I P).bind fun y2 =>
  (f_X1_townOn y2.1 y2.2 0 v1 v2).bind fun y3 =>
  some (Sum.inl (y3, y2.1, y2.2))
theorem b_X7_where (X : CX) (Q : State → Prop) {I : Mem} {P : PMem} {O : Nat → Int64} {D : Bool} {n : Nat} {v1 : Int32} {v2 : Int32} {r : (Int32 × Mem × PMem)}  (h : f_X7_where I P v1 v2 = some (Sum.inl r)) (E : EndR X cX7_where RX7 3 (some .int) 9 n (some (.inl r.1)) r.2.1 r.2.2 O D Q) : Here X cX7_where RX7 3 (some .int) 9 n 0 [some (.inr (.inr (7, 0, 0))), some (.inl v1), some (.inl v2)] [] I P O D n Q := by
  unfold f_X7_where at h
  refine h_aload_n dX7_where_0 rfl ?_
  refine h_iload_n dX7_where_1 rfl ?_
  obtain ⟨y1, hh1, h⟩ := thb_R h
  refine h_cVv [.inl v1] (m_X7_requireJudge  hh1) cw_X7_163 dX7_where_2 rfl ok_7 (by decide) rfl (Or.inr rfl) rfl ?_
  refine h_aload_n dX7_where_5 rfl ?_
  obtain ⟨y2, hh2, h⟩ := obd_some h
  refine h_cVa [] (m_X7_settledCourt  hh2) cw_X7_131 dX7_where_6 rfl ok_7 (by decide) rfl (Or.inr rfl) rfl ?_
  refine h_iload_n dX7_where_9 rfl ?_
  refine h_iload_n dX7_where_10 rfl ?_
  obtain ⟨y3, hh3, h⟩ := obd_some h
  refine h_cVi [.inl v1, .inl v2] (m_X1_townOn (by decide) hh3) cw_X7_190 dX7_where_11 rfl (ok_1 (by decide)) (by decide) rfl (Or.inr rfl) rfl ?_
  cases h
  exact h_iret dX7_where_14 rfl E
theorem bx_X7_where (X : CX) (Q : State → Prop) {I : Mem} {P : PMem} {O : Nat → Int64} {D : Bool} {n : Nat} {v1 : Int32} {v2 : Int32} {r : Nat}  (h : f_X7_where I P v1 v2 = some (Sum.inr r)) (E : EndX X cX7_where RX7 3 (some .int) 9 (n + 1) r I P O D Q) : Here X cX7_where RX7 3 (some .int) 9 (n + 1) 0 [some (.inr (.inr (7, 0, 0))), some (.inl v1), some (.inl v2)] [] I P O D n Q := by
  unfold f_X7_where at h
  refine h_aload_n dX7_where_0 rfl ?_
  refine h_iload_n dX7_where_1 rfl ?_
  rcases thb_X h with hh1 | ⟨y1, hh1, h⟩
  · exact h_callVX (as := [.inl v1]) (mx_X7_requireJudge  hh1) cw_X7_163 dX7_where_2 rfl ok_7 (by decide) rfl rfl E
  refine h_cVv [.inl v1] (m_X7_requireJudge  hh1) cw_X7_163 dX7_where_2 rfl ok_7 (by decide) rfl (Or.inr rfl) rfl ?_
  refine h_aload_n dX7_where_5 rfl ?_
  obtain ⟨y2, hh2, h⟩ := obd_some h
  refine h_cVa [] (m_X7_settledCourt  hh2) cw_X7_131 dX7_where_6 rfl ok_7 (by decide) rfl (Or.inr rfl) rfl ?_
  refine h_iload_n dX7_where_9 rfl ?_
  refine h_iload_n dX7_where_10 rfl ?_
  obtain ⟨y3, hh3, h⟩ := obd_some h
  refine h_cVi [.inl v1, .inl v2] (m_X1_townOn (by decide) hh3) cw_X7_190 dX7_where_11 rfl (ok_1 (by decide)) (by decide) rfl (Or.inr rfl) rfl ?_
  cases h
theorem m_X7_where {I : Mem} {P : PMem} {O : Nat → Int64} {D : Bool} {n : Nat} {v1 : Int32} {v2 : Int32} {r : (Int32 × Mem × PMem)}  (h : f_X7_where I P v1 v2 = some (Sum.inl r)) : MethR yX7_where cX7_where 3 (some .int) 9 [.inr (.inr (7, 0, 0)), .inl v1, .inl v2] I P O D n (some (.inl r.1)) r.2.1 r.2.2 O D n := meth_R (Nat.le_refl _) (by decide) rfl (Nat.le_of_ble_eq_true rfl) rfl (fun X Q E => b_X7_where X Q  h E)
theorem mx_X7_where {I : Mem} {P : PMem} {O : Nat → Int64} {D : Bool} {n : Nat} {v1 : Int32} {v2 : Int32} {r : Nat}  (h : f_X7_where I P v1 v2 = some (Sum.inr r)) : MethX yX7_where cX7_where 3 (some .int) 9 [.inr (.inr (7, 0, 0)), .inl v1, .inl v2] I P O D n r I P O D (n + 1) := meth_X (Nat.le_succ _) (by decide) rfl (Nat.le_of_ble_eq_true rfl) rfl (fun X Q E => bx_X7_where X Q  h E)
def f_X7_requireCase_15  (I : Mem) (P : PMem)  : Option ((Unit) ⊕ Nat) :=
  some (Sum.inr 1)
theorem b_X7_requireCase_15 (X : CX) (Q : State → Prop) {I : Mem} {P : PMem} {O : Nat → Int64} {D : Bool} {n : Nat} {r : (Unit)}  (h : f_X7_requireCase_15 I P = some (Sum.inl r)) (E : EndR X cX7_requireCase RX7 2 (none) 8 n none I P O D Q) : Here X cX7_requireCase RX7 2 (none) 8 n 15 [none, none] [] I P O D n Q := by
  unfold f_X7_requireCase_15 at h
  cases h
theorem bx_X7_requireCase_15 (X : CX) (Q : State → Prop) {I : Mem} {P : PMem} {O : Nat → Int64} {D : Bool} {n : Nat} {r : Nat}  (h : f_X7_requireCase_15 I P = some (Sum.inr r)) (E : EndX X cX7_requireCase RX7 2 (none) 8 (n + 1) r I P O D Q) : Here X cX7_requireCase RX7 2 (none) 8 (n + 1) 15 [none, none] [] I P O D n Q := by
  unfold f_X7_requireCase_15 at h
  cases h
  exact h_throwW (text := "no such case") (j := 14) tw_1 (by decide) (by decide) rfl dX7_requireCase_15 dX7_requireCase_18 dX7_requireCase_19 dX7_requireCase_22 dX7_requireCase_25 E
def f_X7_requireCase  (I : Mem) (P : PMem) (v1 : Int32) : Option ((Unit) ⊕ Nat) :=
  if v1 < 0 then (f_X7_requireCase_15 I P ) else (gd (decide ((P 7 0 0 2) < 2)) <|
  if v1 < (I 3 (P 7 0 0 2) 0 13) then (some (Sum.inl ())) else (f_X7_requireCase_15 I P ))
theorem b_X7_requireCase (X : CX) (Q : State → Prop) {I : Mem} {P : PMem} {O : Nat → Int64} {D : Bool} {n : Nat} {v1 : Int32} {r : (Unit)}  (h : f_X7_requireCase I P v1 = some (Sum.inl r)) (E : EndR X cX7_requireCase RX7 2 (none) 8 n none I P O D Q) : Here X cX7_requireCase RX7 2 (none) 8 n 0 [some (.inr (.inr (7, 0, 0))), some (.inl v1)] [] I P O D n Q := by
  unfold f_X7_requireCase at h
  refine h_iload_n dX7_requireCase_0 rfl ?_
  refine h_if_lt (tgt := 15) dX7_requireCase_1 (by decide) (fun q1 => ?_) (fun q1 => ?_)
  · rw [if_pos q1] at h
    exact h_mask [false, false] (b_X7_requireCase_15 X Q  h E)
  · rw [if_neg q1] at h
    refine h_iload_n dX7_requireCase_4 rfl ?_
    refine h_aload_n dX7_requireCase_5 rfl ?_
    refine g_X7_16  dX7_requireCase_6 ?_
    obtain ⟨g1, h⟩ := gd_some h
    have w1 := of_decide_eq_true g1
    refine g_X7_110 (by omega) dX7_requireCase_9 ?_
    refine h_icmp_lt (tgt := 26) dX7_requireCase_12 (by decide) (fun q2 => ?_) (fun q2 => ?_)
    · rw [if_pos q2] at h
      cases h
      exact h_vret dX7_requireCase_26 rfl E
    · rw [if_neg q2] at h
      exact h_mask [false, false] (b_X7_requireCase_15 X Q  h E)
theorem bx_X7_requireCase (X : CX) (Q : State → Prop) {I : Mem} {P : PMem} {O : Nat → Int64} {D : Bool} {n : Nat} {v1 : Int32} {r : Nat}  (h : f_X7_requireCase I P v1 = some (Sum.inr r)) (E : EndX X cX7_requireCase RX7 2 (none) 8 (n + 1) r I P O D Q) : Here X cX7_requireCase RX7 2 (none) 8 (n + 1) 0 [some (.inr (.inr (7, 0, 0))), some (.inl v1)] [] I P O D n Q := by
  unfold f_X7_requireCase at h
  refine h_iload_n dX7_requireCase_0 rfl ?_
  refine h_if_lt (tgt := 15) dX7_requireCase_1 (by decide) (fun q1 => ?_) (fun q1 => ?_)
  · rw [if_pos q1] at h
    exact h_mask [false, false] (bx_X7_requireCase_15 X Q  h E)
  · rw [if_neg q1] at h
    refine h_iload_n dX7_requireCase_4 rfl ?_
    refine h_aload_n dX7_requireCase_5 rfl ?_
    refine g_X7_16  dX7_requireCase_6 ?_
    obtain ⟨g1, h⟩ := gd_some h
    have w1 := of_decide_eq_true g1
    refine g_X7_110 (by omega) dX7_requireCase_9 ?_
    refine h_icmp_lt (tgt := 26) dX7_requireCase_12 (by decide) (fun q2 => ?_) (fun q2 => ?_)
    · rw [if_pos q2] at h
      cases h
    · rw [if_neg q2] at h
      exact h_mask [false, false] (bx_X7_requireCase_15 X Q  h E)
theorem m_X7_requireCase {I : Mem} {P : PMem} {O : Nat → Int64} {D : Bool} {n : Nat} {v1 : Int32} {r : (Unit)}  (h : f_X7_requireCase I P v1 = some (Sum.inl r)) : MethR yX7_requireCase cX7_requireCase 2 (none) 8 [.inr (.inr (7, 0, 0)), .inl v1] I P O D n none I P O D n := meth_R (Nat.le_refl _) (by decide) rfl (Nat.le_of_ble_eq_true rfl) rfl (fun X Q E => b_X7_requireCase X Q  h E)
theorem mx_X7_requireCase {I : Mem} {P : PMem} {O : Nat → Int64} {D : Bool} {n : Nat} {v1 : Int32} {r : Nat}  (h : f_X7_requireCase I P v1 = some (Sum.inr r)) : MethX yX7_requireCase cX7_requireCase 2 (none) 8 [.inr (.inr (7, 0, 0)), .inl v1] I P O D n r I P O D (n + 1) := meth_X (Nat.le_succ _) (by decide) rfl (Nat.le_of_ble_eq_true rfl) rfl (fun X Q E => bx_X7_requireCase X Q  h E)
def f_X7_proof  (I : Mem) (P : PMem) (v1 : Int32) (v2 : Int32) : Option ((Int32) ⊕ Nat) :=
  thb (f_X7_requireCase I P v1) fun y1 =>
  thb (f_X7_requireTown I P v2) fun y2 =>
  gd (decide ((P 7 0 0 2) < 2)) <|
  gd (inb v1 6) <|
  gd (inb v2 9) <|
  some (Sum.inl (I 40 (P 7 0 0 2) v1.toNatClampNeg v2.toNatClampNeg))
theorem b_X7_proof (X : CX) (Q : State → Prop) {I : Mem} {P : PMem} {O : Nat → Int64} {D : Bool} {n : Nat} {v1 : Int32} {v2 : Int32} {r : (Int32)}  (h : f_X7_proof I P v1 v2 = some (Sum.inl r)) (E : EndR X cX7_proof RX7 3 (some .int) 9 n (some (.inl r)) I P O D Q) : Here X cX7_proof RX7 3 (some .int) 9 n 0 [some (.inr (.inr (7, 0, 0))), some (.inl v1), some (.inl v2)] [] I P O D n Q := by
  unfold f_X7_proof at h
  refine h_aload_n dX7_proof_0 rfl ?_
  refine h_iload_n dX7_proof_1 rfl ?_
  obtain ⟨y1, hh1, h⟩ := thb_R h
  refine h_cVv [.inl v1] (m_X7_requireCase  hh1) cw_X7_194 dX7_proof_2 rfl ok_7 (by decide) rfl (Or.inr rfl) rfl ?_
  refine h_aload_n dX7_proof_5 rfl ?_
  refine h_iload_n dX7_proof_6 rfl ?_
  obtain ⟨y2, hh2, h⟩ := thb_R h
  refine h_cVv [.inl v2] (m_X7_requireTown  hh2) cw_X7_149 dX7_proof_7 rfl ok_7 (by decide) rfl (Or.inr rfl) rfl ?_
  refine h_aload_n dX7_proof_10 rfl ?_
  refine g_X7_16  dX7_proof_11 ?_
  obtain ⟨g1, h⟩ := gd_some h
  have w1 := of_decide_eq_true g1
  refine g_X7_197 (by omega) dX7_proof_14 ?_
  refine h_iload_n dX7_proof_17 rfl ?_
  obtain ⟨g2, h⟩ := gd_some h
  refine ag_39 (by omega) v1.toNatClampNeg rfl dX7_proof_18 g2 ?_
  have w2 := inb_lt g2
  refine h_iload_n dX7_proof_19 rfl ?_
  obtain ⟨g3, h⟩ := gd_some h
  refine al_40 (by omega) (by omega) v2.toNatClampNeg rfl dX7_proof_20 g3 ?_
  cases h
  exact h_iret dX7_proof_21 rfl E
theorem bx_X7_proof (X : CX) (Q : State → Prop) {I : Mem} {P : PMem} {O : Nat → Int64} {D : Bool} {n : Nat} {v1 : Int32} {v2 : Int32} {r : Nat}  (h : f_X7_proof I P v1 v2 = some (Sum.inr r)) (E : EndX X cX7_proof RX7 3 (some .int) 9 (n + 1) r I P O D Q) : Here X cX7_proof RX7 3 (some .int) 9 (n + 1) 0 [some (.inr (.inr (7, 0, 0))), some (.inl v1), some (.inl v2)] [] I P O D n Q := by
  unfold f_X7_proof at h
  refine h_aload_n dX7_proof_0 rfl ?_
  refine h_iload_n dX7_proof_1 rfl ?_
  rcases thb_X h with hh1 | ⟨y1, hh1, h⟩
  · exact h_callVX (as := [.inl v1]) (mx_X7_requireCase  hh1) cw_X7_194 dX7_proof_2 rfl ok_7 (by decide) rfl rfl E
  refine h_cVv [.inl v1] (m_X7_requireCase  hh1) cw_X7_194 dX7_proof_2 rfl ok_7 (by decide) rfl (Or.inr rfl) rfl ?_
  refine h_aload_n dX7_proof_5 rfl ?_
  refine h_iload_n dX7_proof_6 rfl ?_
  rcases thb_X h with hh2 | ⟨y2, hh2, h⟩
  · exact h_callVX (as := [.inl v2]) (mx_X7_requireTown  hh2) cw_X7_149 dX7_proof_7 rfl ok_7 (by decide) rfl rfl E
  refine h_cVv [.inl v2] (m_X7_requireTown  hh2) cw_X7_149 dX7_proof_7 rfl ok_7 (by decide) rfl (Or.inr rfl) rfl ?_
  refine h_aload_n dX7_proof_10 rfl ?_
  refine g_X7_16  dX7_proof_11 ?_
  obtain ⟨g1, h⟩ := gd_some h
  have w1 := of_decide_eq_true g1
  refine g_X7_197 (by omega) dX7_proof_14 ?_
  refine h_iload_n dX7_proof_17 rfl ?_
  obtain ⟨g2, h⟩ := gd_some h
  refine ag_39 (by omega) v1.toNatClampNeg rfl dX7_proof_18 g2 ?_
  have w2 := inb_lt g2
  refine h_iload_n dX7_proof_19 rfl ?_
  obtain ⟨g3, h⟩ := gd_some h
  refine al_40 (by omega) (by omega) v2.toNatClampNeg rfl dX7_proof_20 g3 ?_
  cases h
theorem m_X7_proof {I : Mem} {P : PMem} {O : Nat → Int64} {D : Bool} {n : Nat} {v1 : Int32} {v2 : Int32} {r : (Int32)}  (h : f_X7_proof I P v1 v2 = some (Sum.inl r)) : MethR yX7_proof cX7_proof 3 (some .int) 9 [.inr (.inr (7, 0, 0)), .inl v1, .inl v2] I P O D n (some (.inl r)) I P O D n := meth_R (Nat.le_refl _) (by decide) rfl (Nat.le_of_ble_eq_true rfl) rfl (fun X Q E => b_X7_proof X Q  h E)
theorem mx_X7_proof {I : Mem} {P : PMem} {O : Nat → Int64} {D : Bool} {n : Nat} {v1 : Int32} {v2 : Int32} {r : Nat}  (h : f_X7_proof I P v1 v2 = some (Sum.inr r)) : MethX yX7_proof cX7_proof 3 (some .int) 9 [.inr (.inr (7, 0, 0)), .inl v1, .inl v2] I P O D n r I P O D (n + 1) := meth_X (Nat.le_succ _) (by decide) rfl (Nat.le_of_ble_eq_true rfl) rfl (fun X Q E => bx_X7_proof X Q  h E)
