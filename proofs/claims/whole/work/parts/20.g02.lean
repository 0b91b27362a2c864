theorem dX1_firstInnDay_0 : decode cX1_firstInnDay 0 = .ok (.iconst 0, 1) := by decide +kernel
theorem dX1_firstInnDay_1 : decode cX1_firstInnDay 1 = .ok (.istore 4, 2) := by decide +kernel
theorem dX1_firstInnDay_3 : decode cX1_firstInnDay 3 = .ok (.iload 4, 2) := by decide +kernel
theorem dX1_firstInnDay_5 : decode cX1_firstInnDay 5 = .ok (.aload_n 0, 1) := by decide +kernel
theorem dX1_firstInnDay_6 : decode cX1_firstInnDay 6 = .ok (.getfield 44, 3) := by decide +kernel
theorem dX1_firstInnDay_9 : decode cX1_firstInnDay 9 = .ok (.getfield 73, 3) := by decide +kernel
theorem dX1_firstInnDay_12 : decode cX1_firstInnDay 12 = .ok (.iload_n 1, 1) := by decide +kernel
theorem dX1_firstInnDay_13 : decode cX1_firstInnDay 13 = .ok (.iaload, 1) := by decide +kernel
theorem dX1_firstInnDay_14 : decode cX1_firstInnDay 14 = .ok (.if_icmp .ge 59, 3) := by decide +kernel
theorem dX1_firstInnDay_17 : decode cX1_firstInnDay 17 = .ok (.aload_n 0, 1) := by decide +kernel
theorem dX1_firstInnDay_18 : decode cX1_firstInnDay 18 = .ok (.getfield 11, 3) := by decide +kernel
theorem dX1_firstInnDay_21 : decode cX1_firstInnDay 21 = .ok (.iload_n 1, 1) := by decide +kernel
theorem dX1_firstInnDay_22 : decode cX1_firstInnDay 22 = .ok (.aaload, 1) := by decide +kernel
theorem dX1_firstInnDay_23 : decode cX1_firstInnDay 23 = .ok (.iload 4, 2) := by decide +kernel
theorem dX1_firstInnDay_25 : decode cX1_firstInnDay 25 = .ok (.iaload, 1) := by decide +kernel
theorem dX1_firstInnDay_26 : decode cX1_firstInnDay 26 = .ok (.istore 5, 2) := by decide +kernel
theorem dX1_firstInnDay_28 : decode cX1_firstInnDay 28 = .ok (.iload_n 3, 1) := by decide +kernel
theorem dX1_firstInnDay_29 : decode cX1_firstInnDay 29 = .ok (.iload 5, 2) := by decide +kernel
theorem dX1_firstInnDay_31 : decode cX1_firstInnDay 31 = .ok (.iushr, 1) := by decide +kernel
theorem dX1_firstInnDay_32 : decode cX1_firstInnDay 32 = .ok (.iconst 1, 1) := by decide +kernel
theorem dX1_firstInnDay_33 : decode cX1_firstInnDay 33 = .ok (.iand, 1) := by decide +kernel
theorem dX1_firstInnDay_34 : decode cX1_firstInnDay 34 = .ok (.iconst 1, 1) := by decide +kernel
theorem dX1_firstInnDay_35 : decode cX1_firstInnDay 35 = .ok (.if_icmp .ne 32, 3) := by decide +kernel
theorem dX1_firstInnDay_38 : decode cX1_firstInnDay 38 = .ok (.aload_n 0, 1) := by decide +kernel
theorem dX1_firstInnDay_39 : decode cX1_firstInnDay 39 = .ok (.iload_n 2, 1) := by decide +kernel
theorem dX1_firstInnDay_40 : decode cX1_firstInnDay 40 = .ok (.aload_n 0, 1) := by decide +kernel
theorem dX1_firstInnDay_41 : decode cX1_firstInnDay 41 = .ok (.getfield 16, 3) := by decide +kernel
theorem dX1_firstInnDay_44 : decode cX1_firstInnDay 44 = .ok (.iload_n 1, 1) := by decide +kernel
theorem dX1_firstInnDay_45 : decode cX1_firstInnDay 45 = .ok (.aaload, 1) := by decide +kernel
theorem dX1_firstInnDay_46 : decode cX1_firstInnDay 46 = .ok (.iload 4, 2) := by decide +kernel
theorem dX1_firstInnDay_48 : decode cX1_firstInnDay 48 = .ok (.iaload, 1) := by decide +kernel
theorem dX1_firstInnDay_49 : decode cX1_firstInnDay 49 = .ok (.invokevirtual 195, 3) := by decide +kernel
theorem dX1_firstInnDay_52 : decode cX1_firstInnDay 52 = .ok (.iload 5, 2) := by decide +kernel
theorem dX1_firstInnDay_54 : decode cX1_firstInnDay 54 = .ok (.if_icmp .ne 13, 3) := by decide +kernel
theorem dX1_firstInnDay_57 : decode cX1_firstInnDay 57 = .ok (.aload_n 0, 1) := by decide +kernel
theorem dX1_firstInnDay_58 : decode cX1_firstInnDay 58 = .ok (.getfield 16, 3) := by decide +kernel
theorem dX1_firstInnDay_61 : decode cX1_firstInnDay 61 = .ok (.iload_n 1, 1) := by decide +kernel
theorem dX1_firstInnDay_62 : decode cX1_firstInnDay 62 = .ok (.aaload, 1) := by decide +kernel
theorem dX1_firstInnDay_63 : decode cX1_firstInnDay 63 = .ok (.iload 4, 2) := by decide +kernel
theorem dX1_firstInnDay_65 : decode cX1_firstInnDay 65 = .ok (.iaload, 1) := by decide +kernel
theorem dX1_firstInnDay_66 : decode cX1_firstInnDay 66 = .ok (.ireturn, 1) := by decide +kernel
theorem dX1_firstInnDay_67 : decode cX1_firstInnDay 67 = .ok (.iinc 4 1, 3) := by decide +kernel
theorem dX1_firstInnDay_70 : decode cX1_firstInnDay 70 = .ok (.goto (-67), 3) := by decide +kernel
theorem dX1_firstInnDay_73 : decode cX1_firstInnDay 73 = .ok (.iconst (-1), 1) := by decide +kernel
theorem dX1_firstInnDay_74 : decode cX1_firstInnDay 74 = .ok (.ireturn, 1) := by decide +kernel
theorem dX1_earlier_0 : decode cX1_earlier 0 = .ok (.iload_n 0, 1) := by decide +kernel
theorem dX1_earlier_1 : decode cX1_earlier 1 = .ok (.iconst (-1), 1) := by decide +kernel
theorem dX1_earlier_2 : decode cX1_earlier 2 = .ok (.if_icmp .eq 8, 3) := by decide +kernel
theorem dX1_earlier_5 : decode cX1_earlier 5 = .ok (.iload_n 1, 1) := by decide +kernel
theorem dX1_earlier_6 : decode cX1_earlier 6 = .ok (.iconst (-1), 1) := by decide +kernel
theorem dX1_earlier_7 : decode cX1_earlier 7 = .ok (.if_icmp .ne 9, 3) := by decide +kernel
theorem dX1_earlier_10 : decode cX1_earlier 10 = .ok (.iload_n 0, 1) := by decide +kernel
theorem dX1_earlier_11 : decode cX1_earlier 11 = .ok (.iload_n 1, 1) := by decide +kernel
theorem dX1_earlier_12 : decode cX1_earlier 12 = .ok (.invokestatic 178, 3) := by decide +kernel
theorem dX1_earlier_15 : decode cX1_earlier 15 = .ok (.ireturn, 1) := by decide +kernel
theorem dX1_earlier_16 : decode cX1_earlier 16 = .ok (.iload_n 0, 1) := by decide +kernel
theorem dX1_earlier_17 : decode cX1_earlier 17 = .ok (.iload_n 1, 1) := by decide +kernel
theorem dX1_earlier_18 : decode cX1_earlier 18 = .ok (.invokestatic 183, 3) := by decide +kernel
theorem dX1_earlier_21 : decode cX1_earlier 21 = .ok (.ireturn, 1) := by decide +kernel
theorem dX1_meetInFlood_0 : decode cX1_meetInFlood 0 = .ok (.iconst 0, 1) := by decide +kernel
theorem dX1_meetInFlood_1 : decode cX1_meetInFlood 1 = .ok (.istore 4, 2) := by decide +kernel
theorem dX1_meetInFlood_3 : decode cX1_meetInFlood 3 = .ok (.iconst 0, 1) := by decide +kernel
theorem dX1_meetInFlood_4 : decode cX1_meetInFlood 4 = .ok (.istore 5, 2) := by decide +kernel
theorem dX1_meetInFlood_6 : decode cX1_meetInFlood 6 = .ok (.iload 5, 2) := by decide +kernel
theorem dX1_meetInFlood_8 : decode cX1_meetInFlood 8 = .ok (.aload_n 0, 1) := by decide +kernel
theorem dX1_meetInFlood_9 : decode cX1_meetInFlood 9 = .ok (.getfield 44, 3) := by decide +kernel
theorem dX1_meetInFlood_12 : decode cX1_meetInFlood 12 = .ok (.getfield 56, 3) := by decide +kernel
theorem dX1_meetInFlood_15 : decode cX1_meetInFlood 15 = .ok (.if_icmp .ge 65, 3) := by decide +kernel
theorem dX1_meetInFlood_18 : decode cX1_meetInFlood 18 = .ok (.aload_n 0, 1) := by decide +kernel
theorem dX1_meetInFlood_19 : decode cX1_meetInFlood 19 = .ok (.iload 5, 2) := by decide +kernel
theorem dX1_meetInFlood_21 : decode cX1_meetInFlood 21 = .ok (.iload_n 2, 1) := by decide +kernel
theorem dX1_meetInFlood_22 : decode cX1_meetInFlood 22 = .ok (.invokevirtual 195, 3) := by decide +kernel
theorem dX1_meetInFlood_25 : decode cX1_meetInFlood 25 = .ok (.istore 6, 2) := by decide +kernel
theorem dX1_meetInFlood_27 : decode cX1_meetInFlood 27 = .ok (.iload 6, 2) := by decide +kernel
theorem dX1_meetInFlood_29 : decode cX1_meetInFlood 29 = .ok (.iconst (-1), 1) := by decide +kernel
theorem dX1_meetInFlood_30 : decode cX1_meetInFlood 30 = .ok (.if_icmp .eq 44, 3) := by decide +kernel
theorem dX1_meetInFlood_33 : decode cX1_meetInFlood 33 = .ok (.aload_n 0, 1) := by decide +kernel
theorem dX1_meetInFlood_34 : decode cX1_meetInFlood 34 = .ok (.getfield 44, 3) := by decide +kernel
theorem dX1_meetInFlood_37 : decode cX1_meetInFlood 37 = .ok (.getfield 198, 3) := by decide +kernel
theorem dX1_meetInFlood_40 : decode cX1_meetInFlood 40 = .ok (.iload 6, 2) := by decide +kernel
theorem dX1_meetInFlood_42 : decode cX1_meetInFlood 42 = .ok (.aaload, 1) := by decide +kernel
theorem dX1_meetInFlood_43 : decode cX1_meetInFlood 43 = .ok (.iload_n 1, 1) := by decide +kernel
theorem dX1_meetInFlood_44 : decode cX1_meetInFlood 44 = .ok (.iaload, 1) := by decide +kernel
theorem dX1_meetInFlood_45 : decode cX1_meetInFlood 45 = .ok (.iconst (-1), 1) := by decide +kernel
theorem dX1_meetInFlood_46 : decode cX1_meetInFlood 46 = .ok (.if_icmp .eq 28, 3) := by decide +kernel
theorem dX1_meetInFlood_49 : decode cX1_meetInFlood 49 = .ok (.aload_n 0, 1) := by decide +kernel
theorem dX1_meetInFlood_50 : decode cX1_meetInFlood 50 = .ok (.getfield 44, 3) := by decide +kernel
theorem dX1_meetInFlood_53 : decode cX1_meetInFlood 53 = .ok (.getfield 198, 3) := by decide +kernel
theorem dX1_meetInFlood_56 : decode cX1_meetInFlood 56 = .ok (.iload 6, 2) := by decide +kernel
theorem dX1_meetInFlood_58 : decode cX1_meetInFlood 58 = .ok (.aaload, 1) := by decide +kernel
theorem dX1_meetInFlood_59 : decode cX1_meetInFlood 59 = .ok (.iload_n 1, 1) := by decide +kernel
theorem dX1_meetInFlood_60 : decode cX1_meetInFlood 60 = .ok (.iaload, 1) := by decide +kernel
theorem dX1_meetInFlood_61 : decode cX1_meetInFlood 61 = .ok (.iload_n 3, 1) := by decide +kernel
theorem dX1_meetInFlood_62 : decode cX1_meetInFlood 62 = .ok (.if_icmp .gt 12, 3) := by decide +kernel
theorem dX1_meetInFlood_65 : decode cX1_meetInFlood 65 = .ok (.iload 4, 2) := by decide +kernel
theorem dX1_meetInFlood_67 : decode cX1_meetInFlood 67 = .ok (.iconst 1, 1) := by decide +kernel
theorem dX1_meetInFlood_68 : decode cX1_meetInFlood 68 = .ok (.iload 5, 2) := by decide +kernel
theorem dX1_meetInFlood_70 : decode cX1_meetInFlood 70 = .ok (.ishl, 1) := by decide +kernel
theorem dX1_meetInFlood_71 : decode cX1_meetInFlood 71 = .ok (.ior, 1) := by decide +kernel
theorem dX1_meetInFlood_72 : decode cX1_meetInFlood 72 = .ok (.istore 4, 2) := by decide +kernel
theorem dX1_meetInFlood_74 : decode cX1_meetInFlood 74 = .ok (.iinc 5 1, 3) := by decide +kernel
theorem dX1_meetInFlood_77 : decode cX1_meetInFlood 77 = .ok (.goto (-71), 3) := by decide +kernel
theorem dX1_meetInFlood_80 : decode cX1_meetInFlood 80 = .ok (.iconst 0, 1) := by decide +kernel
theorem dX1_meetInFlood_81 : decode cX1_meetInFlood 81 = .ok (.istore 5, 2) := by decide +kernel
theorem dX1_meetInFlood_83 : decode cX1_meetInFlood 83 = .ok (.iload 5, 2) := by decide +kernel
theorem dX1_meetInFlood_85 : decode cX1_meetInFlood 85 = .ok (.aload_n 0, 1) := by decide +kernel
theorem dX1_meetInFlood_86 : decode cX1_meetInFlood 86 = .ok (.getfield 44, 3) := by decide +kernel
theorem dX1_meetInFlood_89 : decode cX1_meetInFlood 89 = .ok (.getfield 56, 3) := by decide +kernel
theorem dX1_meetInFlood_92 : decode cX1_meetInFlood 92 = .ok (.if_icmp .ge 86, 3) := by decide +kernel
theorem dX1_meetInFlood_95 : decode cX1_meetInFlood 95 = .ok (.iconst 0, 1) := by decide +kernel
theorem dX1_meetInFlood_96 : decode cX1_meetInFlood 96 = .ok (.istore 6, 2) := by decide +kernel
theorem dX1_meetInFlood_98 : decode cX1_meetInFlood 98 = .ok (.iload 6, 2) := by decide +kernel
theorem dX1_meetInFlood_100 : decode cX1_meetInFlood 100 = .ok (.iload 5, 2) := by decide +kernel
theorem dX1_meetInFlood_102 : decode cX1_meetInFlood 102 = .ok (.if_icmp .ge 70, 3) := by decide +kernel
theorem dX1_meetInFlood_105 : decode cX1_meetInFlood 105 = .ok (.iload 4, 2) := by decide +kernel
theorem dX1_meetInFlood_107 : decode cX1_meetInFlood 107 = .ok (.iload 5, 2) := by decide +kernel
theorem dX1_meetInFlood_109 : decode cX1_meetInFlood 109 = .ok (.iushr, 1) := by decide +kernel
theorem dX1_meetInFlood_110 : decode cX1_meetInFlood 110 = .ok (.iload 4, 2) := by decide +kernel
theorem dX1_meetInFlood_112 : decode cX1_meetInFlood 112 = .ok (.iload 6, 2) := by decide +kernel
theorem dX1_meetInFlood_114 : decode cX1_meetInFlood 114 = .ok (.iushr, 1) := by decide +kernel
theorem dX1_meetInFlood_115 : decode cX1_meetInFlood 115 = .ok (.iand, 1) := by decide +kernel
theorem dX1_meetInFlood_116 : decode cX1_meetInFlood 116 = .ok (.iconst 1, 1) := by decide +kernel
theorem dX1_meetInFlood_117 : decode cX1_meetInFlood 117 = .ok (.iand, 1) := by decide +kernel
theorem dX1_meetInFlood_118 : decode cX1_meetInFlood 118 = .ok (.iconst 1, 1) := by decide +kernel
theorem dX1_meetInFlood_119 : decode cX1_meetInFlood 119 = .ok (.if_icmp .ne 47, 3) := by decide +kernel
theorem dX1_meetInFlood_122 : decode cX1_meetInFlood 122 = .ok (.aload_n 0, 1) := by decide +kernel
theorem dX1_meetInFlood_123 : decode cX1_meetInFlood 123 = .ok (.getfield 32, 3) := by decide +kernel
theorem dX1_meetInFlood_126 : decode cX1_meetInFlood 126 = .ok (.iload 5, 2) := by decide +kernel
theorem dX1_meetInFlood_128 : decode cX1_meetInFlood 128 = .ok (.aaload, 1) := by decide +kernel
theorem dX1_meetInFlood_129 : decode cX1_meetInFlood 129 = .ok (.iload 6, 2) := by decide +kernel
theorem dX1_meetInFlood_131 : decode cX1_meetInFlood 131 = .ok (.aload_n 0, 1) := by decide +kernel
theorem dX1_meetInFlood_132 : decode cX1_meetInFlood 132 = .ok (.getfield 32, 3) := by decide +kernel
theorem dX1_meetInFlood_135 : decode cX1_meetInFlood 135 = .ok (.iload 5, 2) := by decide +kernel
theorem dX1_meetInFlood_137 : decode cX1_meetInFlood 137 = .ok (.aaload, 1) := by decide +kernel
theorem dX1_meetInFlood_138 : decode cX1_meetInFlood 138 = .ok (.iload 6, 2) := by decide +kernel
theorem dX1_meetInFlood_140 : decode cX1_meetInFlood 140 = .ok (.iaload, 1) := by decide +kernel
theorem dX1_meetInFlood_141 : decode cX1_meetInFlood 141 = .ok (.iload_n 2, 1) := by decide +kernel
theorem dX1_meetInFlood_142 : decode cX1_meetInFlood 142 = .ok (.invokestatic 175, 3) := by decide +kernel
theorem dX1_meetInFlood_145 : decode cX1_meetInFlood 145 = .ok (.iastore, 1) := by decide +kernel
theorem dX1_meetInFlood_146 : decode cX1_meetInFlood 146 = .ok (.aload_n 0, 1) := by decide +kernel
theorem dX1_meetInFlood_147 : decode cX1_meetInFlood 147 = .ok (.getfield 32, 3) := by decide +kernel
theorem dX1_meetInFlood_150 : decode cX1_meetInFlood 150 = .ok (.iload 6, 2) := by decide +kernel
theorem dX1_meetInFlood_152 : decode cX1_meetInFlood 152 = .ok (.aaload, 1) := by decide +kernel
theorem dX1_meetInFlood_153 : decode cX1_meetInFlood 153 = .ok (.iload 5, 2) := by decide +kernel
theorem dX1_meetInFlood_155 : decode cX1_meetInFlood 155 = .ok (.aload_n 0, 1) := by decide +kernel
theorem dX1_meetInFlood_156 : decode cX1_meetInFlood 156 = .ok (.getfield 32, 3) := by decide +kernel
theorem dX1_meetInFlood_159 : decode cX1_meetInFlood 159 = .ok (.iload 5, 2) := by decide +kernel
theorem dX1_meetInFlood_161 : decode cX1_meetInFlood 161 = .ok (.aaload, 1) := by decide +kernel
theorem dX1_meetInFlood_162 : decode cX1_meetInFlood 162 = .ok (.iload 6, 2) := by decide +kernel
theorem dX1_meetInFlood_164 : decode cX1_meetInFlood 164 = .ok (.iaload, 1) := by decide +kernel
theorem dX1_meetInFlood_165 : decode cX1_meetInFlood 165 = .ok (.iastore, 1) := by decide +kernel
theorem dX1_meetInFlood_166 : decode cX1_meetInFlood 166 = .ok (.iinc 6 1, 3) := by decide +kernel
theorem dX1_meetInFlood_169 : decode cX1_meetInFlood 169 = .ok (.goto (-71), 3) := by decide +kernel
theorem dX1_meetInFlood_172 : decode cX1_meetInFlood 172 = .ok (.iinc 5 1, 3) := by decide +kernel
theorem dX1_meetInFlood_175 : decode cX1_meetInFlood 175 = .ok (.goto (-92), 3) := by decide +kernel
theorem dX1_meetInFlood_178 : decode cX1_meetInFlood 178 = .ok (.return_, 1) := by decide +kernel
theorem dX1_meetAll_0 : decode cX1_meetAll 0 = .ok (.iconst 0, 1) := by decide +kernel
theorem dX1_meetAll_1 : decode cX1_meetAll 1 = .ok (.istore_n 2, 1) := by decide +kernel
theorem dX1_meetAll_2 : decode cX1_meetAll 2 = .ok (.iload_n 2, 1) := by decide +kernel
theorem dX1_meetAll_3 : decode cX1_meetAll 3 = .ok (.aload_n 0, 1) := by decide +kernel
theorem dX1_meetAll_4 : decode cX1_meetAll 4 = .ok (.getfield 44, 3) := by decide +kernel
theorem dX1_meetAll_7 : decode cX1_meetAll 7 = .ok (.getfield 56, 3) := by decide +kernel
theorem dX1_meetAll_10 : decode cX1_meetAll 10 = .ok (.if_icmp .ge 51, 3) := by decide +kernel
theorem dX1_meetAll_13 : decode cX1_meetAll 13 = .ok (.iconst 0, 1) := by decide +kernel
theorem dX1_meetAll_14 : decode cX1_meetAll 14 = .ok (.istore_n 3, 1) := by decide +kernel
theorem dX1_meetAll_15 : decode cX1_meetAll 15 = .ok (.iload_n 3, 1) := by decide +kernel
theorem dX1_meetAll_16 : decode cX1_meetAll 16 = .ok (.iload_n 2, 1) := by decide +kernel
theorem dX1_meetAll_17 : decode cX1_meetAll 17 = .ok (.if_icmp .ge 38, 3) := by decide +kernel
theorem dX1_meetAll_20 : decode cX1_meetAll 20 = .ok (.aload_n 0, 1) := by decide +kernel
theorem dX1_meetAll_21 : decode cX1_meetAll 21 = .ok (.iload_n 2, 1) := by decide +kernel
theorem dX1_meetAll_22 : decode cX1_meetAll 22 = .ok (.iload_n 3, 1) := by decide +kernel
theorem dX1_meetAll_23 : decode cX1_meetAll 23 = .ok (.iload_n 1, 1) := by decide +kernel
theorem dX1_meetAll_24 : decode cX1_meetAll 24 = .ok (.invokevirtual 186, 3) := by decide +kernel
theorem dX1_meetAll_27 : decode cX1_meetAll 27 = .ok (.istore 4, 2) := by decide +kernel
theorem dX1_meetAll_29 : decode cX1_meetAll 29 = .ok (.aload_n 0, 1) := by decide +kernel
theorem dX1_meetAll_30 : decode cX1_meetAll 30 = .ok (.getfield 32, 3) := by decide +kernel
theorem dX1_meetAll_33 : decode cX1_meetAll 33 = .ok (.iload_n 2, 1) := by decide +kernel
theorem dX1_meetAll_34 : decode cX1_meetAll 34 = .ok (.aaload, 1) := by decide +kernel
theorem dX1_meetAll_35 : decode cX1_meetAll 35 = .ok (.iload_n 3, 1) := by decide +kernel
theorem dX1_meetAll_36 : decode cX1_meetAll 36 = .ok (.iload 4, 2) := by decide +kernel
theorem dX1_meetAll_38 : decode cX1_meetAll 38 = .ok (.iastore, 1) := by decide +kernel
theorem dX1_meetAll_39 : decode cX1_meetAll 39 = .ok (.aload_n 0, 1) := by decide +kernel
theorem dX1_meetAll_40 : decode cX1_meetAll 40 = .ok (.getfield 32, 3) := by decide +kernel
theorem dX1_meetAll_43 : decode cX1_meetAll 43 = .ok (.iload_n 3, 1) := by decide +kernel
theorem dX1_meetAll_44 : decode cX1_meetAll 44 = .ok (.aaload, 1) := by decide +kernel
theorem dX1_meetAll_45 : decode cX1_meetAll 45 = .ok (.iload_n 2, 1) := by decide +kernel
theorem dX1_meetAll_46 : decode cX1_meetAll 46 = .ok (.iload 4, 2) := by decide +kernel
theorem dX1_meetAll_48 : decode cX1_meetAll 48 = .ok (.iastore, 1) := by decide +kernel
theorem dX1_meetAll_49 : decode cX1_meetAll 49 = .ok (.iinc 3 1, 3) := by decide +kernel
theorem dX1_meetAll_52 : decode cX1_meetAll 52 = .ok (.goto (-37), 3) := by decide +kernel
theorem dX1_meetAll_55 : decode cX1_meetAll 55 = .ok (.iinc 2 1, 3) := by decide +kernel
theorem dX1_meetAll_58 : decode cX1_meetAll 58 = .ok (.goto (-56), 3) := by decide +kernel
theorem dX1_meetAll_61 : decode cX1_meetAll 61 = .ok (.aload_n 0, 1) := by decide +kernel
theorem dX1_meetAll_62 : decode cX1_meetAll 62 = .ok (.getfield 48, 3) := by decide +kernel
theorem dX1_meetAll_65 : decode cX1_meetAll 65 = .ok (.getfield 189, 3) := by decide +kernel
theorem dX1_meetAll_68 : decode cX1_meetAll 68 = .ok (.astore_n 2, 1) := by decide +kernel
theorem dX1_meetAll_69 : decode cX1_meetAll 69 = .ok (.iconst 0, 1) := by decide +kernel
theorem dX1_meetAll_70 : decode cX1_meetAll 70 = .ok (.istore_n 3, 1) := by decide +kernel
theorem dX1_meetAll_71 : decode cX1_meetAll 71 = .ok (.iload_n 3, 1) := by decide +kernel
theorem dX1_meetAll_72 : decode cX1_meetAll 72 = .ok (.aload_n 2, 1) := by decide +kernel
theorem dX1_meetAll_73 : decode cX1_meetAll 73 = .ok (.getfield 144, 3) := by decide +kernel
theorem dX1_meetAll_76 : decode cX1_meetAll 76 = .ok (.if_icmp .ge 31, 3) := by decide +kernel
theorem dX1_meetAll_79 : decode cX1_meetAll 79 = .ok (.aload_n 0, 1) := by decide +kernel
theorem dX1_meetAll_80 : decode cX1_meetAll 80 = .ok (.aload_n 2, 1) := by decide +kernel
theorem dX1_meetAll_81 : decode cX1_meetAll 81 = .ok (.getfield 149, 3) := by decide +kernel
theorem dX1_meetAll_84 : decode cX1_meetAll 84 = .ok (.iload_n 3, 1) := by decide +kernel
theorem dX1_meetAll_85 : decode cX1_meetAll 85 = .ok (.iaload, 1) := by decide +kernel
theorem dX1_meetAll_86 : decode cX1_meetAll 86 = .ok (.aload_n 2, 1) := by decide +kernel
theorem dX1_meetAll_87 : decode cX1_meetAll 87 = .ok (.getfield 152, 3) := by decide +kernel
theorem dX1_meetAll_90 : decode cX1_meetAll 90 = .ok (.iload_n 3, 1) := by decide +kernel
theorem dX1_meetAll_91 : decode cX1_meetAll 91 = .ok (.iaload, 1) := by decide +kernel
theorem dX1_meetAll_92 : decode cX1_meetAll 92 = .ok (.aload_n 2, 1) := by decide +kernel
theorem dX1_meetAll_93 : decode cX1_meetAll 93 = .ok (.getfield 155, 3) := by decide +kernel
theorem dX1_meetAll_96 : decode cX1_meetAll 96 = .ok (.iload_n 3, 1) := by decide +kernel
theorem dX1_meetAll_97 : decode cX1_meetAll 97 = .ok (.iaload, 1) := by decide +kernel
theorem dX1_meetAll_98 : decode cX1_meetAll 98 = .ok (.invokevirtual 192, 3) := by decide +kernel
theorem dX1_meetAll_101 : decode cX1_meetAll 101 = .ok (.iinc 3 1, 3) := by decide +kernel
theorem dX1_meetAll_104 : decode cX1_meetAll 104 = .ok (.goto (-33), 3) := by decide +kernel
theorem dX1_meetAll_107 : decode cX1_meetAll 107 = .ok (.return_, 1) := by decide +kernel
theorem dX1_whoSaidGuilty_0 : decode cX1_whoSaidGuilty 0 = .ok (.iconst 0, 1) := by decide +kernel
theorem dX1_whoSaidGuilty_1 : decode cX1_whoSaidGuilty 1 = .ok (.istore_n 2, 1) := by decide +kernel
theorem dX1_whoSaidGuilty_2 : decode cX1_whoSaidGuilty 2 = .ok (.iconst 0, 1) := by decide +kernel
theorem dX1_whoSaidGuilty_3 : decode cX1_whoSaidGuilty 3 = .ok (.istore_n 3, 1) := by decide +kernel
theorem dX1_whoSaidGuilty_4 : decode cX1_whoSaidGuilty 4 = .ok (.iload_n 3, 1) := by decide +kernel
theorem dX1_whoSaidGuilty_5 : decode cX1_whoSaidGuilty 5 = .ok (.aload_n 0, 1) := by decide +kernel
theorem dX1_whoSaidGuilty_6 : decode cX1_whoSaidGuilty 6 = .ok (.getfield 44, 3) := by decide +kernel
theorem dX1_whoSaidGuilty_9 : decode cX1_whoSaidGuilty 9 = .ok (.getfield 56, 3) := by decide +kernel
theorem dX1_whoSaidGuilty_12 : decode cX1_whoSaidGuilty 12 = .ok (.if_icmp .ge 27, 3) := by decide +kernel
theorem dX1_whoSaidGuilty_15 : decode cX1_whoSaidGuilty 15 = .ok (.aload_n 0, 1) := by decide +kernel
theorem dX1_whoSaidGuilty_16 : decode cX1_whoSaidGuilty 16 = .ok (.getfield 25, 3) := by decide +kernel
theorem dX1_whoSaidGuilty_19 : decode cX1_whoSaidGuilty 19 = .ok (.iload_n 1, 1) := by decide +kernel
theorem dX1_whoSaidGuilty_20 : decode cX1_whoSaidGuilty 20 = .ok (.aaload, 1) := by decide +kernel
theorem dX1_whoSaidGuilty_21 : decode cX1_whoSaidGuilty 21 = .ok (.iload_n 3, 1) := by decide +kernel
theorem dX1_whoSaidGuilty_22 : decode cX1_whoSaidGuilty 22 = .ok (.iaload, 1) := by decide +kernel
theorem dX1_whoSaidGuilty_23 : decode cX1_whoSaidGuilty 23 = .ok (.iconst 1, 1) := by decide +kernel
theorem dX1_whoSaidGuilty_24 : decode cX1_whoSaidGuilty 24 = .ok (.if_icmp .ne 9, 3) := by decide +kernel
theorem dX1_whoSaidGuilty_27 : decode cX1_whoSaidGuilty 27 = .ok (.iload_n 2, 1) := by decide +kernel
theorem dX1_whoSaidGuilty_28 : decode cX1_whoSaidGuilty 28 = .ok (.iconst 1, 1) := by decide +kernel
theorem dX1_whoSaidGuilty_29 : decode cX1_whoSaidGuilty 29 = .ok (.iload_n 3, 1) := by decide +kernel
theorem dX1_whoSaidGuilty_30 : decode cX1_whoSaidGuilty 30 = .ok (.ishl, 1) := by decide +kernel
theorem dX1_whoSaidGuilty_31 : decode cX1_whoSaidGuilty 31 = .ok (.ior, 1) := by decide +kernel
theorem dX1_whoSaidGuilty_32 : decode cX1_whoSaidGuilty 32 = .ok (.istore_n 2, 1) := by decide +kernel
theorem dX1_whoSaidGuilty_33 : decode cX1_whoSaidGuilty 33 = .ok (.iinc 3 1, 3) := by decide +kernel
theorem dX1_whoSaidGuilty_36 : decode cX1_whoSaidGuilty 36 = .ok (.goto (-32), 3) := by decide +kernel
theorem dX1_whoSaidGuilty_39 : decode cX1_whoSaidGuilty 39 = .ok (.iload_n 2, 1) := by decide +kernel
theorem dX1_whoSaidGuilty_40 : decode cX1_whoSaidGuilty 40 = .ok (.ireturn, 1) := by decide +kernel
theorem dX1_latestDay_0 : decode cX1_latestDay 0 = .ok (.aload_n 0, 1) := by decide +kernel
theorem dX1_latestDay_1 : decode cX1_latestDay 1 = .ok (.getfield 19, 3) := by decide +kernel
theorem dX1_latestDay_4 : decode cX1_latestDay 4 = .ok (.iload_n 1, 1) := by decide +kernel
theorem dX1_latestDay_5 : decode cX1_latestDay 5 = .ok (.aaload, 1) := by decide +kernel
theorem dX1_latestDay_6 : decode cX1_latestDay 6 = .ok (.astore 5, 2) := by decide +kernel
theorem dX1_latestDay_8 : decode cX1_latestDay 8 = .ok (.aload 5, 2) := by decide +kernel
theorem dX1_latestDay_10 : decode cX1_latestDay 10 = .ok (.iload_n 2, 1) := by decide +kernel
theorem dX1_latestDay_11 : decode cX1_latestDay 11 = .ok (.iaload, 1) := by decide +kernel
theorem dX1_latestDay_12 : decode cX1_latestDay 12 = .ok (.aload 5, 2) := by decide +kernel
theorem dX1_latestDay_14 : decode cX1_latestDay 14 = .ok (.iload_n 3, 1) := by decide +kernel
theorem dX1_latestDay_15 : decode cX1_latestDay 15 = .ok (.iaload, 1) := by decide +kernel
theorem dX1_latestDay_16 : decode cX1_latestDay 16 = .ok (.aload 5, 2) := by decide +kernel
theorem dX1_latestDay_18 : decode cX1_latestDay 18 = .ok (.iload 4, 2) := by decide +kernel
theorem dX1_latestDay_20 : decode cX1_latestDay 20 = .ok (.iaload, 1) := by decide +kernel
theorem dX1_latestDay_21 : decode cX1_latestDay 21 = .ok (.invokestatic 178, 3) := by decide +kernel
theorem dX1_latestDay_24 : decode cX1_latestDay 24 = .ok (.invokestatic 178, 3) := by decide +kernel
theorem dX1_latestDay_27 : decode cX1_latestDay 27 = .ok (.ireturn, 1) := by decide +kernel
theorem dX1_areInThreeTowns_0 : decode cX1_areInThreeTowns 0 = .ok (.aload_n 0, 1) := by decide +kernel
theorem dX1_areInThreeTowns_1 : decode cX1_areInThreeTowns 1 = .ok (.getfield 22, 3) := by decide +kernel
theorem dX1_areInThreeTowns_4 : decode cX1_areInThreeTowns 4 = .ok (.iload_n 1, 1) := by decide +kernel
theorem dX1_areInThreeTowns_5 : decode cX1_areInThreeTowns 5 = .ok (.aaload, 1) := by decide +kernel
theorem dX1_areInThreeTowns_6 : decode cX1_areInThreeTowns 6 = .ok (.astore 5, 2) := by decide +kernel
theorem dX1_areInThreeTowns_8 : decode cX1_areInThreeTowns 8 = .ok (.aload 5, 2) := by decide +kernel
theorem dX1_areInThreeTowns_10 : decode cX1_areInThreeTowns 10 = .ok (.iload_n 2, 1) := by decide +kernel
theorem dX1_areInThreeTowns_11 : decode cX1_areInThreeTowns 11 = .ok (.iaload, 1) := by decide +kernel
theorem dX1_areInThreeTowns_12 : decode cX1_areInThreeTowns 12 = .ok (.aload 5, 2) := by decide +kernel
theorem dX1_areInThreeTowns_14 : decode cX1_areInThreeTowns 14 = .ok (.iload_n 3, 1) := by decide +kernel
theorem dX1_areInThreeTowns_15 : decode cX1_areInThreeTowns 15 = .ok (.iaload, 1) := by decide +kernel
theorem dX1_areInThreeTowns_16 : decode cX1_areInThreeTowns 16 = .ok (.if_icmp .eq 31, 3) := by decide +kernel
theorem dX1_areInThreeTowns_19 : decode cX1_areInThreeTowns 19 = .ok (.aload 5, 2) := by decide +kernel
theorem dX1_areInThreeTowns_21 : decode cX1_areInThreeTowns 21 = .ok (.iload_n 2, 1) := by decide +kernel
theorem dX1_areInThreeTowns_22 : decode cX1_areInThreeTowns 22 = .ok (.iaload, 1) := by decide +kernel
theorem dX1_areInThreeTowns_23 : decode cX1_areInThreeTowns 23 = .ok (.aload 5, 2) := by decide +kernel
theorem dX1_areInThreeTowns_25 : decode cX1_areInThreeTowns 25 = .ok (.iload 4, 2) := by decide +kernel
theorem dX1_areInThreeTowns_27 : decode cX1_areInThreeTowns 27 = .ok (.iaload, 1) := by decide +kernel
theorem dX1_areInThreeTowns_28 : decode cX1_areInThreeTowns 28 = .ok (.if_icmp .eq 19, 3) := by decide +kernel
theorem dX1_areInThreeTowns_31 : decode cX1_areInThreeTowns 31 = .ok (.aload 5, 2) := by decide +kernel
theorem dX1_areInThreeTowns_33 : decode cX1_areInThreeTowns 33 = .ok (.iload_n 3, 1) := by decide +kernel
theorem dX1_areInThreeTowns_34 : decode cX1_areInThreeTowns 34 = .ok (.iaload, 1) := by decide +kernel
theorem dX1_areInThreeTowns_35 : decode cX1_areInThreeTowns 35 = .ok (.aload 5, 2) := by decide +kernel
theorem dX1_areInThreeTowns_37 : decode cX1_areInThreeTowns 37 = .ok (.iload 4, 2) := by decide +kernel
theorem dX1_areInThreeTowns_39 : decode cX1_areInThreeTowns 39 = .ok (.iaload, 1) := by decide +kernel
theorem dX1_areInThreeTowns_40 : decode cX1_areInThreeTowns 40 = .ok (.if_icmp .eq 7, 3) := by decide +kernel
theorem dX1_areInThreeTowns_43 : decode cX1_areInThreeTowns 43 = .ok (.iconst 1, 1) := by decide +kernel
theorem dX1_areInThreeTowns_44 : decode cX1_areInThreeTowns 44 = .ok (.goto 4, 3) := by decide +kernel
theorem dX1_areInThreeTowns_47 : decode cX1_areInThreeTowns 47 = .ok (.iconst 0, 1) := by decide +kernel
theorem dX1_areInThreeTowns_48 : decode cX1_areInThreeTowns 48 = .ok (.ireturn, 1) := by decide +kernel
theorem dX1_areApart_0 : decode cX1_areApart 0 = .ok (.aload_n 0, 1) := by decide +kernel
theorem dX1_areApart_1 : decode cX1_areApart 1 = .ok (.getfield 32, 3) := by decide +kernel
theorem dX1_areApart_4 : decode cX1_areApart 4 = .ok (.iload_n 1, 1) := by decide +kernel
theorem dX1_areApart_5 : decode cX1_areApart 5 = .ok (.aaload, 1) := by decide +kernel
theorem dX1_areApart_6 : decode cX1_areApart 6 = .ok (.iload_n 2, 1) := by decide +kernel
theorem dX1_areApart_7 : decode cX1_areApart 7 = .ok (.iaload, 1) := by decide +kernel
theorem dX1_areApart_8 : decode cX1_areApart 8 = .ok (.iconst (-1), 1) := by decide +kernel
theorem dX1_areApart_9 : decode cX1_areApart 9 = .ok (.if_icmp .eq 15, 3) := by decide +kernel
theorem dX1_areApart_12 : decode cX1_areApart 12 = .ok (.aload_n 0, 1) := by decide +kernel
theorem dX1_areApart_13 : decode cX1_areApart 13 = .ok (.getfield 32, 3) := by decide +kernel
theorem dX1_areApart_16 : decode cX1_areApart 16 = .ok (.iload_n 1, 1) := by decide +kernel
theorem dX1_areApart_17 : decode cX1_areApart 17 = .ok (.aaload, 1) := by decide +kernel
theorem dX1_areApart_18 : decode cX1_areApart 18 = .ok (.iload_n 2, 1) := by decide +kernel
theorem dX1_areApart_19 : decode cX1_areApart 19 = .ok (.iaload, 1) := by decide +kernel
theorem dX1_areApart_20 : decode cX1_areApart 20 = .ok (.iload_n 3, 1) := by decide +kernel
theorem dX1_areApart_21 : decode cX1_areApart 21 = .ok (.if_icmp .le 7, 3) := by decide +kernel
theorem dX1_areApart_24 : decode cX1_areApart 24 = .ok (.iconst 1, 1) := by decide +kernel
theorem dX1_areApart_25 : decode cX1_areApart 25 = .ok (.goto 4, 3) := by decide +kernel
theorem dX1_areApart_28 : decode cX1_areApart 28 = .ok (.iconst 0, 1) := by decide +kernel
theorem dX1_areApart_29 : decode cX1_areApart 29 = .ok (.ireturn, 1) := by decide +kernel
theorem dX1_trioWith_0 : decode cX1_trioWith 0 = .ok (.aload_n 0, 1) := by decide +kernel
theorem dX1_trioWith_1 : decode cX1_trioWith 1 = .ok (.getfield 28, 3) := by decide +kernel
theorem dX1_trioWith_4 : decode cX1_trioWith 4 = .ok (.iload_n 1, 1) := by decide +kernel
theorem dX1_trioWith_5 : decode cX1_trioWith 5 = .ok (.iaload, 1) := by decide +kernel
theorem dX1_trioWith_6 : decode cX1_trioWith 6 = .ok (.iload_n 2, 1) := by decide +kernel
theorem dX1_trioWith_7 : decode cX1_trioWith 7 = .ok (.ior, 1) := by decide +kernel
theorem dX1_trioWith_8 : decode cX1_trioWith 8 = .ok (.iload_n 3, 1) := by decide +kernel
theorem dX1_trioWith_9 : decode cX1_trioWith 9 = .ok (.iconst (-1), 1) := by decide +kernel
theorem dX1_trioWith_10 : decode cX1_trioWith 10 = .ok (.ixor, 1) := by decide +kernel
theorem dX1_trioWith_11 : decode cX1_trioWith 11 = .ok (.iand, 1) := by decide +kernel
theorem dX1_trioWith_12 : decode cX1_trioWith 12 = .ok (.istore 4, 2) := by decide +kernel
theorem dX1_trioWith_14 : decode cX1_trioWith 14 = .ok (.aload_n 0, 1) := by decide +kernel
theorem dX1_trioWith_15 : decode cX1_trioWith 15 = .ok (.iload_n 1, 1) := by decide +kernel
theorem dX1_trioWith_16 : decode cX1_trioWith 16 = .ok (.invokevirtual 204, 3) := by decide +kernel
theorem dX1_trioWith_19 : decode cX1_trioWith 19 = .ok (.iload 4, 2) := by decide +kernel
theorem dX1_trioWith_21 : decode cX1_trioWith 21 = .ok (.iconst (-1), 1) := by decide +kernel
theorem dX1_trioWith_22 : decode cX1_trioWith 22 = .ok (.ixor, 1) := by decide +kernel
theorem dX1_trioWith_23 : decode cX1_trioWith 23 = .ok (.iand, 1) := by decide +kernel
theorem dX1_trioWith_24 : decode cX1_trioWith 24 = .ok (.istore 5, 2) := by decide +kernel
theorem dX1_trioWith_26 : decode cX1_trioWith 26 = .ok (.iconst 0, 1) := by decide +kernel
theorem dX1_trioWith_27 : decode cX1_trioWith 27 = .ok (.istore 6, 2) := by decide +kernel
theorem dX1_trioWith_29 : decode cX1_trioWith 29 = .ok (.iconst (-1), 1) := by decide +kernel
theorem dX1_trioWith_30 : decode cX1_trioWith 30 = .ok (.istore 7, 2) := by decide +kernel
theorem dX1_trioWith_32 : decode cX1_trioWith 32 = .ok (.iconst 0, 1) := by decide +kernel
theorem dX1_trioWith_33 : decode cX1_trioWith 33 = .ok (.istore 8, 2) := by decide +kernel
theorem dX1_trioWith_35 : decode cX1_trioWith 35 = .ok (.iload 8, 2) := by decide +kernel
theorem dX1_trioWith_37 : decode cX1_trioWith 37 = .ok (.aload_n 0, 1) := by decide +kernel
theorem dX1_trioWith_38 : decode cX1_trioWith 38 = .ok (.getfield 44, 3) := by decide +kernel
theorem dX1_trioWith_41 : decode cX1_trioWith 41 = .ok (.getfield 56, 3) := by decide +kernel
theorem dX1_trioWith_44 : decode cX1_trioWith 44 = .ok (.if_icmp .ge 169, 3) := by decide +kernel
theorem dX1_trioWith_47 : decode cX1_trioWith 47 = .ok (.iload 8, 2) := by decide +kernel
theorem dX1_trioWith_49 : decode cX1_trioWith 49 = .ok (.iconst 1, 1) := by decide +kernel
theorem dX1_trioWith_50 : decode cX1_trioWith 50 = .ok (.iadd, 1) := by decide +kernel
theorem dX1_trioWith_51 : decode cX1_trioWith 51 = .ok (.istore 9, 2) := by decide +kernel
theorem dX1_trioWith_53 : decode cX1_trioWith 53 = .ok (.iload 9, 2) := by decide +kernel
theorem dX1_trioWith_55 : decode cX1_trioWith 55 = .ok (.aload_n 0, 1) := by decide +kernel
theorem dX1_trioWith_56 : decode cX1_trioWith 56 = .ok (.getfield 44, 3) := by decide +kernel
theorem dX1_trioWith_59 : decode cX1_trioWith 59 = .ok (.getfield 56, 3) := by decide +kernel
theorem dX1_trioWith_62 : decode cX1_trioWith 62 = .ok (.if_icmp .ge 145, 3) := by decide +kernel
theorem dX1_trioWith_65 : decode cX1_trioWith 65 = .ok (.iload 9, 2) := by decide +kernel
theorem dX1_trioWith_67 : decode cX1_trioWith 67 = .ok (.iconst 1, 1) := by decide +kernel
theorem dX1_trioWith_68 : decode cX1_trioWith 68 = .ok (.iadd, 1) := by decide +kernel
theorem dX1_trioWith_69 : decode cX1_trioWith 69 = .ok (.istore 10, 2) := by decide +kernel
theorem dX1_trioWith_71 : decode cX1_trioWith 71 = .ok (.iload 10, 2) := by decide +kernel
theorem dX1_trioWith_73 : decode cX1_trioWith 73 = .ok (.aload_n 0, 1) := by decide +kernel
theorem dX1_trioWith_74 : decode cX1_trioWith 74 = .ok (.getfield 44, 3) := by decide +kernel
theorem dX1_trioWith_77 : decode cX1_trioWith 77 = .ok (.getfield 56, 3) := by decide +kernel
theorem dX1_trioWith_80 : decode cX1_trioWith 80 = .ok (.if_icmp .ge 121, 3) := by decide +kernel
theorem dX1_trioWith_83 : decode cX1_trioWith 83 = .ok (.iconst 1, 1) := by decide +kernel
theorem dX1_trioWith_84 : decode cX1_trioWith 84 = .ok (.iload 8, 2) := by decide +kernel
theorem dX1_trioWith_86 : decode cX1_trioWith 86 = .ok (.ishl, 1) := by decide +kernel
theorem dX1_trioWith_87 : decode cX1_trioWith 87 = .ok (.iconst 1, 1) := by decide +kernel
theorem dX1_trioWith_88 : decode cX1_trioWith 88 = .ok (.iload 9, 2) := by decide +kernel
theorem dX1_trioWith_90 : decode cX1_trioWith 90 = .ok (.ishl, 1) := by decide +kernel
theorem dX1_trioWith_91 : decode cX1_trioWith 91 = .ok (.ior, 1) := by decide +kernel
theorem dX1_trioWith_92 : decode cX1_trioWith 92 = .ok (.iconst 1, 1) := by decide +kernel
theorem dX1_trioWith_93 : decode cX1_trioWith 93 = .ok (.iload 10, 2) := by decide +kernel
theorem dX1_trioWith_95 : decode cX1_trioWith 95 = .ok (.ishl, 1) := by decide +kernel
theorem dX1_trioWith_96 : decode cX1_trioWith 96 = .ok (.ior, 1) := by decide +kernel
theorem dX1_trioWith_97 : decode cX1_trioWith 97 = .ok (.istore 11, 2) := by decide +kernel
theorem dX1_trioWith_99 : decode cX1_trioWith 99 = .ok (.aload_n 0, 1) := by decide +kernel
theorem dX1_trioWith_100 : decode cX1_trioWith 100 = .ok (.iload_n 1, 1) := by decide +kernel
theorem dX1_trioWith_101 : decode cX1_trioWith 101 = .ok (.iload 8, 2) := by decide +kernel
theorem dX1_trioWith_103 : decode cX1_trioWith 103 = .ok (.iload 9, 2) := by decide +kernel
theorem dX1_trioWith_105 : decode cX1_trioWith 105 = .ok (.iload 10, 2) := by decide +kernel
theorem dX1_trioWith_107 : decode cX1_trioWith 107 = .ok (.invokevirtual 207, 3) := by decide +kernel
theorem dX1_trioWith_110 : decode cX1_trioWith 110 = .ok (.istore 12, 2) := by decide +kernel
theorem dX1_trioWith_112 : decode cX1_trioWith 112 = .ok (.iload 11, 2) := by decide +kernel
theorem dX1_trioWith_114 : decode cX1_trioWith 114 = .ok (.iload 5, 2) := by decide +kernel
theorem dX1_trioWith_116 : decode cX1_trioWith 116 = .ok (.iconst (-1), 1) := by decide +kernel
theorem dX1_trioWith_117 : decode cX1_trioWith 117 = .ok (.ixor, 1) := by decide +kernel
theorem dX1_trioWith_118 : decode cX1_trioWith 118 = .ok (.iand, 1) := by decide +kernel
theorem dX1_trioWith_119 : decode cX1_trioWith 119 = .ok (.ifCond .ne 76, 3) := by decide +kernel
theorem dX1_trioWith_122 : decode cX1_trioWith 122 = .ok (.iload 6, 2) := by decide +kernel
theorem dX1_trioWith_124 : decode cX1_trioWith 124 = .ok (.ifCond .eq 10, 3) := by decide +kernel
theorem dX1_trioWith_127 : decode cX1_trioWith 127 = .ok (.iload 12, 2) := by decide +kernel
theorem dX1_trioWith_129 : decode cX1_trioWith 129 = .ok (.iload 7, 2) := by decide +kernel
theorem dX1_trioWith_131 : decode cX1_trioWith 131 = .ok (.if_icmp .ge 64, 3) := by decide +kernel
theorem dX1_trioWith_134 : decode cX1_trioWith 134 = .ok (.aload_n 0, 1) := by decide +kernel
theorem dX1_trioWith_135 : decode cX1_trioWith 135 = .ok (.iload_n 1, 1) := by decide +kernel
theorem dX1_trioWith_136 : decode cX1_trioWith 136 = .ok (.iload 8, 2) := by decide +kernel
theorem dX1_trioWith_138 : decode cX1_trioWith 138 = .ok (.iload 9, 2) := by decide +kernel
theorem dX1_trioWith_140 : decode cX1_trioWith 140 = .ok (.iload 10, 2) := by decide +kernel
theorem dX1_trioWith_142 : decode cX1_trioWith 142 = .ok (.invokevirtual 211, 3) := by decide +kernel
theorem dX1_trioWith_145 : decode cX1_trioWith 145 = .ok (.ifCond .eq 50, 3) := by decide +kernel
theorem dX1_trioWith_148 : decode cX1_trioWith 148 = .ok (.aload_n 0, 1) := by decide +kernel
theorem dX1_trioWith_149 : decode cX1_trioWith 149 = .ok (.iload 8, 2) := by decide +kernel
theorem dX1_trioWith_151 : decode cX1_trioWith 151 = .ok (.iload 9, 2) := by decide +kernel
theorem dX1_trioWith_153 : decode cX1_trioWith 153 = .ok (.iload 12, 2) := by decide +kernel
theorem dX1_trioWith_155 : decode cX1_trioWith 155 = .ok (.invokevirtual 214, 3) := by decide +kernel
theorem dX1_trioWith_158 : decode cX1_trioWith 158 = .ok (.ifCond .eq 37, 3) := by decide +kernel
theorem dX1_trioWith_161 : decode cX1_trioWith 161 = .ok (.aload_n 0, 1) := by decide +kernel
theorem dX1_trioWith_162 : decode cX1_trioWith 162 = .ok (.iload 8, 2) := by decide +kernel
theorem dX1_trioWith_164 : decode cX1_trioWith 164 = .ok (.iload 10, 2) := by decide +kernel
theorem dX1_trioWith_166 : decode cX1_trioWith 166 = .ok (.iload 12, 2) := by decide +kernel
theorem dX1_trioWith_168 : decode cX1_trioWith 168 = .ok (.invokevirtual 214, 3) := by decide +kernel
theorem dX1_trioWith_171 : decode cX1_trioWith 171 = .ok (.ifCond .eq 24, 3) := by decide +kernel
theorem dX1_trioWith_174 : decode cX1_trioWith 174 = .ok (.aload_n 0, 1) := by decide +kernel
theorem dX1_trioWith_175 : decode cX1_trioWith 175 = .ok (.iload 9, 2) := by decide +kernel
theorem dX1_trioWith_177 : decode cX1_trioWith 177 = .ok (.iload 10, 2) := by decide +kernel
theorem dX1_trioWith_179 : decode cX1_trioWith 179 = .ok (.iload 12, 2) := by decide +kernel
theorem dX1_trioWith_181 : decode cX1_trioWith 181 = .ok (.invokevirtual 214, 3) := by decide +kernel
theorem dX1_trioWith_184 : decode cX1_trioWith 184 = .ok (.ifCond .eq 11, 3) := by decide +kernel
theorem dX1_trioWith_187 : decode cX1_trioWith 187 = .ok (.iload 11, 2) := by decide +kernel
theorem dX1_trioWith_189 : decode cX1_trioWith 189 = .ok (.istore 6, 2) := by decide +kernel
theorem dX1_trioWith_191 : decode cX1_trioWith 191 = .ok (.iload 12, 2) := by decide +kernel
theorem dX1_trioWith_193 : decode cX1_trioWith 193 = .ok (.istore 7, 2) := by decide +kernel
theorem dX1_trioWith_195 : decode cX1_trioWith 195 = .ok (.iinc 10 1, 3) := by decide +kernel
theorem dX1_trioWith_198 : decode cX1_trioWith 198 = .ok (.goto (-127), 3) := by decide +kernel
theorem dX1_trioWith_201 : decode cX1_trioWith 201 = .ok (.iinc 9 1, 3) := by decide +kernel
theorem dX1_trioWith_204 : decode cX1_trioWith 204 = .ok (.goto (-151), 3) := by decide +kernel
theorem dX1_trioWith_207 : decode cX1_trioWith 207 = .ok (.iinc 8 1, 3) := by decide +kernel
theorem dX1_trioWith_210 : decode cX1_trioWith 210 = .ok (.goto (-175), 3) := by decide +kernel
theorem dX1_trioWith_213 : decode cX1_trioWith 213 = .ok (.iload 6, 2) := by decide +kernel
theorem dX1_trioWith_215 : decode cX1_trioWith 215 = .ok (.ireturn, 1) := by decide +kernel
theorem dX1_decideAll_0 : decode cX1_decideAll 0 = .ok (.iconst 0, 1) := by decide +kernel
theorem dX1_decideAll_1 : decode cX1_decideAll 1 = .ok (.istore_n 1, 1) := by decide +kernel
theorem dX1_decideAll_2 : decode cX1_decideAll 2 = .ok (.iload_n 1, 1) := by decide +kernel
theorem dX1_decideAll_3 : decode cX1_decideAll 3 = .ok (.aload_n 0, 1) := by decide +kernel
theorem dX1_decideAll_4 : decode cX1_decideAll 4 = .ok (.getfield 44, 3) := by decide +kernel
theorem dX1_decideAll_7 : decode cX1_decideAll 7 = .ok (.getfield 95, 3) := by decide +kernel
theorem dX1_decideAll_10 : decode cX1_decideAll 10 = .ok (.if_icmp .ge 25, 3) := by decide +kernel
theorem dX1_decideAll_13 : decode cX1_decideAll 13 = .ok (.aload_n 0, 1) := by decide +kernel
theorem dX1_decideAll_14 : decode cX1_decideAll 14 = .ok (.getfield 35, 3) := by decide +kernel
theorem dX1_decideAll_17 : decode cX1_decideAll 17 = .ok (.iload_n 1, 1) := by decide +kernel
theorem dX1_decideAll_18 : decode cX1_decideAll 18 = .ok (.aload_n 0, 1) := by decide +kernel
theorem dX1_decideAll_19 : decode cX1_decideAll 19 = .ok (.iload_n 1, 1) := by decide +kernel
theorem dX1_decideAll_20 : decode cX1_decideAll 20 = .ok (.iconst 0, 1) := by decide +kernel
theorem dX1_decideAll_21 : decode cX1_decideAll 21 = .ok (.aload_n 0, 1) := by decide +kernel
theorem dX1_decideAll_22 : decode cX1_decideAll 22 = .ok (.getfield 52, 3) := by decide +kernel
theorem dX1_decideAll_25 : decode cX1_decideAll 25 = .ok (.invokevirtual 201, 3) := by decide +kernel
theorem dX1_decideAll_28 : decode cX1_decideAll 28 = .ok (.iastore, 1) := by decide +kernel
theorem dX1_decideAll_29 : decode cX1_decideAll 29 = .ok (.iinc 1 1, 3) := by decide +kernel
theorem dX1_decideAll_32 : decode cX1_decideAll 32 = .ok (.goto (-30), 3) := by decide +kernel
theorem dX1_decideAll_35 : decode cX1_decideAll 35 = .ok (.return_, 1) := by decide +kernel
theorem dX1_settle_0 : decode cX1_settle 0 = .ok (.aload_n 0, 1) := by decide +kernel
theorem dX1_settle_1 : decode cX1_settle 1 = .ok (.invokevirtual 82, 3) := by decide +kernel
theorem dX1_settle_4 : decode cX1_settle 4 = .ok (.aload_n 0, 1) := by decide +kernel
theorem dX1_settle_5 : decode cX1_settle 5 = .ok (.aload_n 0, 1) := by decide +kernel
theorem dX1_settle_6 : decode cX1_settle 6 = .ok (.getfield 48, 3) := by decide +kernel
theorem dX1_settle_9 : decode cX1_settle 9 = .ok (.getfield 85, 3) := by decide +kernel
theorem dX1_settle_12 : decode cX1_settle 12 = .ok (.invokevirtual 88, 3) := by decide +kernel
theorem dX1_settle_15 : decode cX1_settle 15 = .ok (.aload_n 0, 1) := by decide +kernel
theorem dX1_settle_16 : decode cX1_settle 16 = .ok (.invokevirtual 92, 3) := by decide +kernel
theorem dX1_settle_19 : decode cX1_settle 19 = .ok (.return_, 1) := by decide +kernel
theorem dX1_lastDay_0 : decode cX1_lastDay 0 = .ok (.aload_n 0, 1) := by decide +kernel
theorem dX1_lastDay_1 : decode cX1_lastDay 1 = .ok (.getfield 44, 3) := by decide +kernel
theorem dX1_lastDay_4 : decode cX1_lastDay 4 = .ok (.getfield 73, 3) := by decide +kernel
theorem dX1_lastDay_7 : decode cX1_lastDay 7 = .ok (.iload_n 1, 1) := by decide +kernel
theorem dX1_lastDay_8 : decode cX1_lastDay 8 = .ok (.iaload, 1) := by decide +kernel
theorem dX1_lastDay_9 : decode cX1_lastDay 9 = .ok (.istore_n 2, 1) := by decide +kernel
theorem dX1_lastDay_10 : decode cX1_lastDay 10 = .ok (.iload_n 2, 1) := by decide +kernel
theorem dX1_lastDay_11 : decode cX1_lastDay 11 = .ok (.ifCond .ne 7, 3) := by decide +kernel
theorem dX1_lastDay_14 : decode cX1_lastDay 14 = .ok (.iconst (-1), 1) := by decide +kernel
theorem dX1_lastDay_15 : decode cX1_lastDay 15 = .ok (.goto 13, 3) := by decide +kernel
theorem dX1_lastDay_18 : decode cX1_lastDay 18 = .ok (.aload_n 0, 1) := by decide +kernel
theorem dX1_lastDay_19 : decode cX1_lastDay 19 = .ok (.getfield 16, 3) := by decide +kernel
theorem dX1_lastDay_22 : decode cX1_lastDay 22 = .ok (.iload_n 1, 1) := by decide +kernel
theorem dX1_lastDay_23 : decode cX1_lastDay 23 = .ok (.aaload, 1) := by decide +kernel
theorem dX1_lastDay_24 : decode cX1_lastDay 24 = .ok (.iload_n 2, 1) := by decide +kernel
theorem dX1_lastDay_25 : decode cX1_lastDay 25 = .ok (.iconst 1, 1) := by decide +kernel
theorem dX1_lastDay_26 : decode cX1_lastDay 26 = .ok (.isub, 1) := by decide +kernel
theorem dX1_lastDay_27 : decode cX1_lastDay 27 = .ok (.iaload, 1) := by decide +kernel
theorem dX1_lastDay_28 : decode cX1_lastDay 28 = .ok (.ireturn, 1) := by decide +kernel
theorem dX1_arrival_0 : decode cX1_arrival 0 = .ok (.aload_n 0, 1) := by decide +kernel
theorem dX1_arrival_1 : decode cX1_arrival 1 = .ok (.getfield 44, 3) := by decide +kernel
theorem dX1_arrival_4 : decode cX1_arrival 4 = .ok (.getfield 169, 3) := by decide +kernel
theorem dX1_arrival_7 : decode cX1_arrival 7 = .ok (.iload_n 1, 1) := by decide +kernel
theorem dX1_arrival_8 : decode cX1_arrival 8 = .ok (.aaload, 1) := by decide +kernel
theorem dX1_arrival_9 : decode cX1_arrival 9 = .ok (.iload_n 3, 1) := by decide +kernel
theorem dX1_arrival_10 : decode cX1_arrival 10 = .ok (.iaload, 1) := by decide +kernel
theorem dX1_arrival_11 : decode cX1_arrival 11 = .ok (.istore 4, 2) := by decide +kernel
theorem dX1_arrival_13 : decode cX1_arrival 13 = .ok (.iload 4, 2) := by decide +kernel
theorem dX1_arrival_15 : decode cX1_arrival 15 = .ok (.iconst (-1), 1) := by decide +kernel
theorem dX1_arrival_16 : decode cX1_arrival 16 = .ok (.if_icmp .ne 7, 3) := by decide +kernel
theorem dX1_arrival_19 : decode cX1_arrival 19 = .ok (.iconst (-1), 1) := by decide +kernel
theorem dX1_arrival_20 : decode cX1_arrival 20 = .ok (.goto 7, 3) := by decide +kernel
theorem dX1_arrival_23 : decode cX1_arrival 23 = .ok (.iload_n 2, 1) := by decide +kernel
theorem dX1_arrival_24 : decode cX1_arrival 24 = .ok (.iload 4, 2) := by decide +kernel
theorem dX1_arrival_26 : decode cX1_arrival 26 = .ok (.iadd, 1) := by decide +kernel
theorem dX1_arrival_27 : decode cX1_arrival 27 = .ok (.ireturn, 1) := by decide +kernel
def f_X1_firstInnDay_3  (I : Mem) (P : PMem) (z0 : Nat) : Nat → Int32 → Int32 → Int32 → Int32 → Option (Int32)
  | 0, _, _, _, _ => none
  | fu + 1, v1, v2, v3, v4 =>
    gd (decide ((P 1 z0 0 0) < 2)) <|
    gd (inb v1 5) <|
    if (I 36 (P 1 z0 0 0) 0 v1.toNatClampNeg) ≤ v4 then (some (-1 : Int32)) else (gd (inb v4 7) <|
    bnd (I 12 z0 v1.toNatClampNeg v4.toNatClampNeg) fun x1 =>
    if ((jushr v3 x1) &&& (1 : Int32)) = (1 : Int32) then ((f_X1_townOn I P z0 v2 (I 14 z0 v1.toNatClampNeg v4.toNatClampNeg)).bind fun y1 =>
    if y1 = x1 then (some (I 14 z0 v1.toNatClampNeg v4.toNatClampNeg)) else ((f_X1_firstInnDay_3 I P z0 fu) v1 v2 v3 (v4 + (1 : Int32)))) else ((f_X1_firstInnDay_3 I P z0 fu) v1 v2 v3 (v4 + (1 : Int32))))
theorem b_X1_firstInnDay_3 (X : CX) (Q : State → Prop) {I : Mem} {P : PMem} {O : Nat → Int64} {D : Bool} {n : Nat} {z0 : Nat} {r : (Int32)}  (hz0 : z0 < 2) : ∀ (fu : Nat) {v1 : Int32} {v2 : Int32} {v3 : Int32} {v4 : Int32}, f_X1_firstInnDay_3 I P z0 fu v1 v2 v3 v4 = some r → EndR X cX1_firstInnDay RX1 6 (some .int) 3 n (some (.inl r)) I P O D Q → Here X cX1_firstInnDay RX1 6 (some .int) 3 n 3 [some (.inr (.inr (1, z0, 0))), some (.inl v1), some (.inl v2), some (.inl v3), some (.inl v4), none] [] I P O D n Q := by
  intro fu
  induction fu with
  | zero => intro v1 v2 v3 v4 h E; cases h
  | succ fu ih =>
  intro v1 v2 v3 v4 h E
  have H3 : ∀ (v1 : Int32) (v2 : Int32) (v3 : Int32) (v4 : Int32), f_X1_firstInnDay_3 I P z0 fu v1 v2 v3 v4 = some r → Here X cX1_firstInnDay RX1 6 (some .int) 3 n 3 [some (.inr (.inr (1, z0, 0))), some (.inl v1), some (.inl v2), some (.inl v3), some (.inl v4), none] [] I P O D n Q := fun _ _ _ _ b => ih b E
  simp only [f_X1_firstInnDay_3] at h
  refine h_iload dX1_firstInnDay_3 rfl ?_
  refine h_aload_n dX1_firstInnDay_5 rfl ?_
  refine g_X1_44 (by omega) dX1_firstInnDay_6 ?_
  obtain ⟨g1, h⟩ := gd_some h
  have w1 := of_decide_eq_true g1
  refine g_X1_73 (by omega) dX1_firstInnDay_9 ?_
  refine h_iload_n dX1_firstInnDay_12 rfl ?_
  obtain ⟨g2, h⟩ := gd_some h
  refine al_36 (by omega) v1.toNatClampNeg rfl dX1_firstInnDay_13 g2 ?_
  refine h_icmp_ge (tgt := 73) dX1_firstInnDay_14 (by decide) (fun q1 => ?_) (fun q1 => ?_)
  · rw [if_pos q1] at h
    refine h_iconst (-1 : Int32) dX1_firstInnDay_73 k_iconst_m1 ?_
    cases h
    exact h_iret dX1_firstInnDay_74 rfl E
  · rw [if_neg q1] at h
    refine h_aload_n dX1_firstInnDay_17 rfl ?_
    refine g_X1_11 (by omega) dX1_firstInnDay_18 ?_
    refine h_iload_n dX1_firstInnDay_21 rfl ?_
    refine ag_11 (by omega) v1.toNatClampNeg rfl dX1_firstInnDay_22 g2 ?_
    have w2 := inb_lt g2
    refine h_iload dX1_firstInnDay_23 rfl ?_
    obtain ⟨g3, h⟩ := gd_some h
    refine al_12 (by omega) (by omega) v4.toNatClampNeg rfl dX1_firstInnDay_25 g3 ?_
    obtain ⟨x1, e1, h⟩ := bnd_some h
    refine h_nmv e1 ?_
    refine h_istore dX1_firstInnDay_26 (by decide) rfl ?_
    refine h_iload_n dX1_firstInnDay_28 rfl ?_
    refine h_iload dX1_firstInnDay_29 rfl ?_
    refine h_ushr dX1_firstInnDay_31 ?_
    refine h_iconst (1 : Int32) dX1_firstInnDay_32 k_iconst_1 ?_
    refine h_iand dX1_firstInnDay_33 ?_
    refine h_iconst (1 : Int32) dX1_firstInnDay_34 k_iconst_1 ?_
    refine h_icmp_ne (tgt := 67) dX1_firstInnDay_35 (by decide) (fun q2 => ?_) (fun q2 => ?_)
    · rw [if_neg q2] at h
      refine h_iinc (1 : Int32) dX1_firstInnDay_67 rfl k_iinc_1 (by decide) rfl ?_
      refine h_goto (tgt := 3) dX1_firstInnDay_70 (by decide) ?_
      exact h_mask [true, true, true, true, true, false] (H3 _ _ _ _ h)
    · rw [if_pos q2] at h
      refine h_aload_n dX1_firstInnDay_38 rfl ?_
      refine h_iload_n dX1_firstInnDay_39 rfl ?_
      refine h_aload_n dX1_firstInnDay_40 rfl ?_
      refine g_X1_16 (by omega) dX1_firstInnDay_41 ?_
      refine h_iload_n dX1_firstInnDay_44 rfl ?_
      refine ag_13 (by omega) v1.toNatClampNeg rfl dX1_firstInnDay_45 g2 ?_
      refine h_iload dX1_firstInnDay_46 rfl ?_
      refine al_14 (by omega) (by omega) v4.toNatClampNeg rfl dX1_firstInnDay_48 g3 ?_
      obtain ⟨y1, hh1, h⟩ := obd_some h
      refine h_cVi [.inl v2, .inl (I 14 z0 v1.toNatClampNeg v4.toNatClampNeg)] (m_X1_townOn (by omega) hh1) cw_X1_195 dX1_firstInnDay_49 rfl (ok_1 (by omega)) (by decide) rfl (Or.inr rfl) rfl ?_
      refine h_iload dX1_firstInnDay_52 rfl ?_
      refine h_icmp_ne (tgt := 67) dX1_firstInnDay_54 (by decide) (fun q3 => ?_) (fun q3 => ?_)
      · rw [if_neg q3] at h
        refine h_iinc (1 : Int32) dX1_firstInnDay_67 rfl k_iinc_1 (by decide) rfl ?_
        refine h_goto (tgt := 3) dX1_firstInnDay_70 (by decide) ?_
        exact h_mask [true, true, true, true, true, false] (H3 _ _ _ _ h)
      · rw [if_pos q3] at h
        refine h_aload_n dX1_firstInnDay_57 rfl ?_
        refine g_X1_16 (by omega) dX1_firstInnDay_58 ?_
        refine h_iload_n dX1_firstInnDay_61 rfl ?_
        refine ag_13 (by omega) v1.toNatClampNeg rfl dX1_firstInnDay_62 g2 ?_
        refine h_iload dX1_firstInnDay_63 rfl ?_
        refine al_14 (by omega) (by omega) v4.toNatClampNeg rfl dX1_firstInnDay_65 g3 ?_
        cases h
        exact h_iret dX1_firstInnDay_66 rfl E
def f_X1_firstInnDay  (I : Mem) (P : PMem) (z0 : Nat) (v1 : Int32) (v2 : Int32) (v3 : Int32) : Option (Int32) :=
  f_X1_firstInnDay_3 I P z0 FU v1 v2 v3 (0 : Int32)
theorem b_X1_firstInnDay (X : CX) (Q : State → Prop) {I : Mem} {P : PMem} {O : Nat → Int64} {D : Bool} {n : Nat} {z0 : Nat} {v1 : Int32} {v2 : Int32} {v3 : Int32} {r : (Int32)}  (hz0 : z0 < 2) (h : f_X1_firstInnDay I P z0 v1 v2 v3 = some r) (E : EndR X cX1_firstInnDay RX1 6 (some .int) 3 n (some (.inl r)) I P O D Q) : Here X cX1_firstInnDay RX1 6 (some .int) 3 n 0 [some (.inr (.inr (1, z0, 0))), some (.inl v1), some (.inl v2), some (.inl v3), none, none] [] I P O D n Q := by
  unfold f_X1_firstInnDay at h
  refine h_iconst (0 : Int32) dX1_firstInnDay_0 k_iconst_0 ?_
  refine h_istore dX1_firstInnDay_1 (by decide) rfl ?_
  exact (b_X1_firstInnDay_3 X Q hz0 FU  h E)
theorem m_X1_firstInnDay {I : Mem} {P : PMem} {O : Nat → Int64} {D : Bool} {n : Nat} {z0 : Nat} {v1 : Int32} {v2 : Int32} {v3 : Int32} {r : (Int32)} (hz0 : z0 < 2) (h : f_X1_firstInnDay I P z0 v1 v2 v3 = some r) : MethR yX1_firstInnDay cX1_firstInnDay 6 (some .int) 3 [.inr (.inr (1, z0, 0)), .inl v1, .inl v2, .inl v3] I P O D n (some (.inl r)) I P O D n := meth_R (Nat.le_refl _) (by decide) rfl (Nat.le_of_ble_eq_true rfl) rfl (fun X Q E => b_X1_firstInnDay X Q hz0 h E)
def f_X1_earlier_10  (I : Mem) (v0 : Int32) (v1 : Int32) : Option (Int32) :=
  some (jmax v0 v1)
theorem b_X1_earlier_10 (X : CX) (Q : State → Prop) {I : Mem} {P : PMem} {O : Nat → Int64} {D : Bool} {n : Nat} {v0 : Int32} {v1 : Int32} {r : (Int32)}  (h : f_X1_earlier_10 I v0 v1 = some r) (E : EndR X cX1_earlier RX1 2 (some .int) 2 n (some (.inl r)) I P O D Q) : Here X cX1_earlier RX1 2 (some .int) 2 n 10 [some (.inl v0), some (.inl v1)] [] I P O D n Q := by
  unfold f_X1_earlier_10 at h
  refine h_iload_n dX1_earlier_10 rfl ?_
  refine h_iload_n dX1_earlier_11 rfl ?_
  refine h_max dX1_earlier_12 ml_X1_178 wm1_max wm2 wm3_max (by decide) rfl ?_
  cases h
  exact h_iret dX1_earlier_15 rfl E
def f_X1_earlier  (I : Mem) (v0 : Int32) (v1 : Int32) : Option (Int32) :=
  if v0 = (-1 : Int32) then (f_X1_earlier_10 I v0 v1) else (if v1 = (-1 : Int32) then (f_X1_earlier_10 I v0 v1) else (some (jmin v0 v1)))
theorem b_X1_earlier (X : CX) (Q : State → Prop) {I : Mem} {P : PMem} {O : Nat → Int64} {D : Bool} {n : Nat} {v0 : Int32} {v1 : Int32} {r : (Int32)}  (h : f_X1_earlier I v0 v1 = some r) (E : EndR X cX1_earlier RX1 2 (some .int) 2 n (some (.inl r)) I P O D Q) : Here X cX1_earlier RX1 2 (some .int) 2 n 0 [some (.inl v0), some (.inl v1)] [] I P O D n Q := by
  unfold f_X1_earlier at h
  refine h_iload_n dX1_earlier_0 rfl ?_
  refine h_iconst (-1 : Int32) dX1_earlier_1 k_iconst_m1 ?_
  refine h_icmp_eq (tgt := 10) dX1_earlier_2 (by decide) (fun q1 => ?_) (fun q1 => ?_)
  · rw [if_pos q1] at h
    exact (b_X1_earlier_10 X Q  h E)
  · rw [if_neg q1] at h
    refine h_iload_n dX1_earlier_5 rfl ?_
    refine h_iconst (-1 : Int32) dX1_earlier_6 k_iconst_m1 ?_
    refine h_icmp_ne (tgt := 16) dX1_earlier_7 (by decide) (fun q2 => ?_) (fun q2 => ?_)
    · rw [if_neg q2] at h
      refine h_iload_n dX1_earlier_16 rfl ?_
      refine h_iload_n dX1_earlier_17 rfl ?_
      refine h_min dX1_earlier_18 ml_X1_183 wm1_min wm2 wm3_min (by decide) rfl ?_
      cases h
      exact h_iret dX1_earlier_21 rfl E
    · rw [if_pos q2] at h
      exact (b_X1_earlier_10 X Q  h E)
theorem m_X1_earlier {I : Mem} {P : PMem} {O : Nat → Int64} {D : Bool} {n : Nat} {v0 : Int32} {v1 : Int32} {r : (Int32)}  (h : f_X1_earlier I v0 v1 = some r) : MethR yX1_earlier cX1_earlier 2 (some .int) 2 [.inl v0, .inl v1] I P O D n (some (.inl r)) I P O D n := meth_R (Nat.le_refl _) (by decide) rfl (Nat.le_of_ble_eq_true rfl) rfl (fun X Q E => b_X1_earlier X Q  h E)
def f_X1_meetInFlood_98 (k83 : Mem → Int32 → Int32 → Int32 → Option (Mem)) (P : PMem) (z0 : Nat) : Nat → Mem → Int32 → Int32 → Int32 → Int32 → Option (Mem)
  | 0, _, _, _, _, _ => none
  | fu + 1, I, v2, v4, v5, v6 =>
    if v5 ≤ v6 then (k83 I v2 v4 (v5 + (1 : Int32))) else (if (((jushr v4 v5) &&& (jushr v4 v6)) &&& (1 : Int32)) = (1 : Int32) then (gd (inb v5 5) <|
    gd (inb v6 5) <|
    (f_X1_earlier I (I 23 z0 v5.toNatClampNeg v6.toNatClampNeg) v2).bind fun y1 =>
    bnd (upd4 I 23 z0 v5.toNatClampNeg v6.toNatClampNeg y1) fun I1' =>
    bnd (upd4 I1' 23 z0 v6.toNatClampNeg v5.toNatClampNeg (I1' 23 z0 v5.toNatClampNeg v6.toNatClampNeg)) fun I2' =>
    (f_X1_meetInFlood_98 k83 P z0 fu) I2' v2 v4 v5 (v6 + (1 : Int32))) else ((f_X1_meetInFlood_98 k83 P z0 fu) I v2 v4 v5 (v6 + (1 : Int32))))
theorem b_X1_meetInFlood_98 (X : CX) (Q : State → Prop) {P : PMem} {O : Nat → Int64} {D : Bool} {n : Nat} {k83 : Mem → Int32 → Int32 → Int32 → Option (Mem)} {z0 : Nat} {r : (Mem)}  (H83 : ∀ (I : Mem) (v2 : Int32) (v4 : Int32) (v5 : Int32), k83 I v2 v4 v5 = some r → Here X cX1_meetInFlood RX1 7 (none) 3 n 83 [some (.inr (.inr (1, z0, 0))), none, some (.inl v2), none, some (.inl v4), some (.inl v5), none] [] I P O D n Q) (hz0 : z0 < 2) : ∀ (fu : Nat) {I : Mem} {v2 : Int32} {v4 : Int32} {v5 : Int32} {v6 : Int32}, f_X1_meetInFlood_98 k83 P z0 fu I v2 v4 v5 v6 = some r → EndR X cX1_meetInFlood RX1 7 (none) 3 n none r P O D Q → Here X cX1_meetInFlood RX1 7 (none) 3 n 98 [some (.inr (.inr (1, z0, 0))), none, some (.inl v2), none, some (.inl v4), some (.inl v5), some (.inl v6)] [] I P O D n Q := by
  intro fu
  induction fu with
  | zero => intro I v2 v4 v5 v6 h E; cases h
  | succ fu ih =>
  intro I v2 v4 v5 v6 h E
  have H98 : ∀ (I : Mem) (v2 : Int32) (v4 : Int32) (v5 : Int32) (v6 : Int32), f_X1_meetInFlood_98 k83 P z0 fu I v2 v4 v5 v6 = some r → Here X cX1_meetInFlood RX1 7 (none) 3 n 98 [some (.inr (.inr (1, z0, 0))), none, some (.inl v2), none, some (.inl v4), some (.inl v5), some (.inl v6)] [] I P O D n Q := fun _ _ _ _ _ b => ih b E
  simp only [f_X1_meetInFlood_98] at h
  refine h_iload dX1_meetInFlood_98 rfl ?_
  refine h_iload dX1_meetInFlood_100 rfl ?_
  refine h_icmp_ge (tgt := 172) dX1_meetInFlood_102 (by decide) (fun q1 => ?_) (fun q1 => ?_)
  · rw [if_pos q1] at h
    refine h_iinc (1 : Int32) dX1_meetInFlood_172 rfl k_iinc_1 (by decide) rfl ?_
    refine h_goto (tgt := 83) dX1_meetInFlood_175 (by decide) ?_
    exact h_mask [true, false, true, false, true, true, false] (H83 _ _ _ _ h)
  · rw [if_neg q1] at h
    refine h_iload dX1_meetInFlood_105 rfl ?_
    refine h_iload dX1_meetInFlood_107 rfl ?_
    refine h_ushr dX1_meetInFlood_109 ?_
    refine h_iload dX1_meetInFlood_110 rfl ?_
    refine h_iload dX1_meetInFlood_112 rfl ?_
    refine h_ushr dX1_meetInFlood_114 ?_
    refine h_iand dX1_meetInFlood_115 ?_
    refine h_iconst (1 : Int32) dX1_meetInFlood_116 k_iconst_1 ?_
    refine h_iand dX1_meetInFlood_117 ?_
    refine h_iconst (1 : Int32) dX1_meetInFlood_118 k_iconst_1 ?_
    refine h_icmp_ne (tgt := 166) dX1_meetInFlood_119 (by decide) (fun q2 => ?_) (fun q2 => ?_)
    · rw [if_neg q2] at h
      refine h_iinc (1 : Int32) dX1_meetInFlood_166 rfl k_iinc_1 (by decide) rfl ?_
      refine h_goto (tgt := 98) dX1_meetInFlood_169 (by decide) ?_
      exact (H98 _ _ _ _ _ h)
    · rw [if_pos q2] at h
      refine h_aload_n dX1_meetInFlood_122 rfl ?_
      refine g_X1_32 (by omega) dX1_meetInFlood_123 ?_
      refine h_iload dX1_meetInFlood_126 rfl ?_
      obtain ⟨g1, h⟩ := gd_some h
      refine ag_22 (by omega) v5.toNatClampNeg rfl dX1_meetInFlood_128 g1 ?_
      have w1 := inb_lt g1
      refine h_iload dX1_meetInFlood_129 rfl ?_
      refine h_aload_n dX1_meetInFlood_131 rfl ?_
      refine g_X1_32 (by omega) dX1_meetInFlood_132 ?_
      refine h_iload dX1_meetInFlood_135 rfl ?_
      refine ag_22 (by omega) v5.toNatClampNeg rfl dX1_meetInFlood_137 g1 ?_
      refine h_iload dX1_meetInFlood_138 rfl ?_
      obtain ⟨g2, h⟩ := gd_some h
      refine al_23 (by omega) (by omega) v6.toNatClampNeg rfl dX1_meetInFlood_140 g2 ?_
      refine h_iload_n dX1_meetInFlood_141 rfl ?_
      obtain ⟨y1, hh1, h⟩ := obd_some h
      refine h_cSi [.inl (I 23 z0 v5.toNatClampNeg v6.toNatClampNeg), .inl v2] (m_X1_earlier  hh1) cs_X1_175 dX1_meetInFlood_142 rfl (by decide) rfl (Or.inr rfl) rfl ?_
      obtain ⟨I1', e1, h⟩ := bnd_some h
      refine as_23 (by omega) (by omega) v6.toNatClampNeg rfl dX1_meetInFlood_145 g2 ?_
      refine h_nmI e1 ?_
      refine h_aload_n dX1_meetInFlood_146 rfl ?_
      refine g_X1_32 (by omega) dX1_meetInFlood_147 ?_
      refine h_iload dX1_meetInFlood_150 rfl ?_
      refine ag_22 (by omega) v6.toNatClampNeg rfl dX1_meetInFlood_152 g2 ?_
      have w2 := inb_lt g2
      refine h_iload dX1_meetInFlood_153 rfl ?_
      refine h_aload_n dX1_meetInFlood_155 rfl ?_
      refine g_X1_32 (by omega) dX1_meetInFlood_156 ?_
      refine h_iload dX1_meetInFlood_159 rfl ?_
      refine ag_22 (by omega) v5.toNatClampNeg rfl dX1_meetInFlood_161 g1 ?_
      refine h_iload dX1_meetInFlood_162 rfl ?_
      refine al_23 (by omega) (by omega) v6.toNatClampNeg rfl dX1_meetInFlood_164 g2 ?_
      obtain ⟨I2', e2, h⟩ := bnd_some h
      refine as_23 (by omega) (by omega) v5.toNatClampNeg rfl dX1_meetInFlood_165 g1 ?_
      refine h_nmI e2 ?_
      refine h_iinc (1 : Int32) dX1_meetInFlood_166 rfl k_iinc_1 (by decide) rfl ?_
      refine h_goto (tgt := 98) dX1_meetInFlood_169 (by decide) ?_
      exact (H98 _ _ _ _ _ h)
def f_X1_meetInFlood_83  (P : PMem) (z0 : Nat) : Nat → Mem → Int32 → Int32 → Int32 → Option (Mem)
  | 0, _, _, _, _ => none
  | fu + 1, I, v2, v4, v5 =>
    gd (decide ((P 1 z0 0 0) < 2)) <|
    if (I 3 (P 1 z0 0 0) 0 7) ≤ v5 then (some I) else (f_X1_meetInFlood_98 (f_X1_meetInFlood_83 P z0 fu) P z0 FU I v2 v4 v5 (0 : Int32))
theorem b_X1_meetInFlood_83 (X : CX) (Q : State → Prop) {P : PMem} {O : Nat → Int64} {D : Bool} {n : Nat} {z0 : Nat} {r : (Mem)}  (hz0 : z0 < 2) : ∀ (fu : Nat) {I : Mem} {v2 : Int32} {v4 : Int32} {v5 : Int32}, f_X1_meetInFlood_83 P z0 fu I v2 v4 v5 = some r → EndR X cX1_meetInFlood RX1 7 (none) 3 n none r P O D Q → Here X cX1_meetInFlood RX1 7 (none) 3 n 83 [some (.inr (.inr (1, z0, 0))), none, some (.inl v2), none, some (.inl v4), some (.inl v5), none] [] I P O D n Q := by
  intro fu
  induction fu with
  | zero => intro I v2 v4 v5 h E; cases h
  | succ fu ih =>
  intro I v2 v4 v5 h E
  have H83 : ∀ (I : Mem) (v2 : Int32) (v4 : Int32) (v5 : Int32), f_X1_meetInFlood_83 P z0 fu I v2 v4 v5 = some r → Here X cX1_meetInFlood RX1 7 (none) 3 n 83 [some (.inr (.inr (1, z0, 0))), none, some (.inl v2), none, some (.inl v4), some (.inl v5), none] [] I P O D n Q := fun _ _ _ _ b => ih b E
  simp only [f_X1_meetInFlood_83] at h
  refine h_iload dX1_meetInFlood_83 rfl ?_
  refine h_aload_n dX1_meetInFlood_85 rfl ?_
  refine g_X1_44 (by omega) dX1_meetInFlood_86 ?_
  obtain ⟨g1, h⟩ := gd_some h
  have w1 := of_decide_eq_true g1
  refine g_X1_56 (by omega) dX1_meetInFlood_89 ?_
  refine h_icmp_ge (tgt := 178) dX1_meetInFlood_92 (by decide) (fun q1 => ?_) (fun q1 => ?_)
  · rw [if_pos q1] at h
    cases h
    exact h_vret dX1_meetInFlood_178 rfl E
  · rw [if_neg q1] at h
    refine h_iconst (0 : Int32) dX1_meetInFlood_95 k_iconst_0 ?_
    refine h_istore dX1_meetInFlood_96 (by decide) rfl ?_
    exact (b_X1_meetInFlood_98 X Q H83 hz0 FU  h E)
def f_X1_meetInFlood_6  (P : PMem) (z0 : Nat) : Nat → Mem → Int32 → Int32 → Int32 → Int32 → Int32 → Option (Mem)
  | 0, _, _, _, _, _, _ => none
  | fu + 1, I, v1, v2, v3, v4, v5 =>
    gd (decide ((P 1 z0 0 0) < 2)) <|
    if (I 3 (P 1 z0 0 0) 0 7) ≤ v5 then (f_X1_meetInFlood_83 P z0 FU I v2 v4 (0 : Int32)) else ((f_X1_townOn I P z0 v5 v2).bind fun y1 =>
    if y1 = (-1 : Int32) then ((f_X1_meetInFlood_6 P z0 fu) I v1 v2 v3 v4 (v5 + (1 : Int32))) else (gd (inb y1 9) <|
    gd (inb v1 9) <|
    if (I 30 (P 1 z0 0 0) y1.toNatClampNeg v1.toNatClampNeg) = (-1 : Int32) then ((f_X1_meetInFlood_6 P z0 fu) I v1 v2 v3 v4 (v5 + (1 : Int32))) else (if v3 < (I 30 (P 1 z0 0 0) y1.toNatClampNeg v1.toNatClampNeg) then ((f_X1_meetInFlood_6 P z0 fu) I v1 v2 v3 v4 (v5 + (1 : Int32))) else (bnd (v4 ||| (jshl (1 : Int32) v5)) fun x1 =>
    (f_X1_meetInFlood_6 P z0 fu) I v1 v2 v3 x1 (v5 + (1 : Int32))))))
theorem b_X1_meetInFlood_6 (X : CX) (Q : State → Prop) {P : PMem} {O : Nat → Int64} {D : Bool} {n : Nat} {z0 : Nat} {r : (Mem)}  (hz0 : z0 < 2) : ∀ (fu : Nat) {I : Mem} {v1 : Int32} {v2 : Int32} {v3 : Int32} {v4 : Int32} {v5 : Int32}, f_X1_meetInFlood_6 P z0 fu I v1 v2 v3 v4 v5 = some r → EndR X cX1_meetInFlood RX1 7 (none) 3 n none r P O D Q → Here X cX1_meetInFlood RX1 7 (none) 3 n 6 [some (.inr (.inr (1, z0, 0))), some (.inl v1), some (.inl v2), some (.inl v3), some (.inl v4), some (.inl v5), none] [] I P O D n Q := by
  intro fu
  induction fu with
  | zero => intro I v1 v2 v3 v4 v5 h E; cases h
  | succ fu ih =>
  intro I v1 v2 v3 v4 v5 h E
  have H6 : ∀ (I : Mem) (v1 : Int32) (v2 : Int32) (v3 : Int32) (v4 : Int32) (v5 : Int32), f_X1_meetInFlood_6 P z0 fu I v1 v2 v3 v4 v5 = some r → Here X cX1_meetInFlood RX1 7 (none) 3 n 6 [some (.inr (.inr (1, z0, 0))), some (.inl v1), some (.inl v2), some (.inl v3), some (.inl v4), some (.inl v5), none] [] I P O D n Q := fun _ _ _ _ _ _ b => ih b E
  simp only [f_X1_meetInFlood_6] at h
  refine h_iload dX1_meetInFlood_6 rfl ?_
  refine h_aload_n dX1_meetInFlood_8 rfl ?_
  refine g_X1_44 (by omega) dX1_meetInFlood_9 ?_
  obtain ⟨g1, h⟩ := gd_some h
  have w1 := of_decide_eq_true g1
  refine g_X1_56 (by omega) dX1_meetInFlood_12 ?_
  refine h_icmp_ge (tgt := 80) dX1_meetInFlood_15 (by decide) (fun q1 => ?_) (fun q1 => ?_)
  · rw [if_pos q1] at h
    refine h_iconst (0 : Int32) dX1_meetInFlood_80 k_iconst_0 ?_
    refine h_istore dX1_meetInFlood_81 (by decide) rfl ?_
    exact h_mask [true, false, true, false, true, true, false] (b_X1_meetInFlood_83 X Q hz0 FU  h E)
  · rw [if_neg q1] at h
    refine h_aload_n dX1_meetInFlood_18 rfl ?_
    refine h_iload dX1_meetInFlood_19 rfl ?_
    refine h_iload_n dX1_meetInFlood_21 rfl ?_
    obtain ⟨y1, hh1, h⟩ := obd_some h
    refine h_cVi [.inl v5, .inl v2] (m_X1_townOn (by omega) hh1) cw_X1_195 dX1_meetInFlood_22 rfl (ok_1 (by omega)) (by decide) rfl (Or.inr rfl) rfl ?_
    refine h_istore dX1_meetInFlood_25 (by decide) rfl ?_
    refine h_iload dX1_meetInFlood_27 rfl ?_
    refine h_iconst (-1 : Int32) dX1_meetInFlood_29 k_iconst_m1 ?_
    refine h_icmp_eq (tgt := 74) dX1_meetInFlood_30 (by decide) (fun q2 => ?_) (fun q2 => ?_)
    · rw [if_pos q2] at h
      refine h_iinc (1 : Int32) dX1_meetInFlood_74 rfl k_iinc_1 (by decide) rfl ?_
      refine h_goto (tgt := 6) dX1_meetInFlood_77 (by decide) ?_
      exact h_mask [true, true, true, true, true, true, false] (H6 _ _ _ _ _ _ h)
    · rw [if_neg q2] at h
      refine h_aload_n dX1_meetInFlood_33 rfl ?_
      refine g_X1_44 (by omega) dX1_meetInFlood_34 ?_
      refine g_X1_198 (by omega) dX1_meetInFlood_37 ?_
      refine h_iload dX1_meetInFlood_40 rfl ?_
      obtain ⟨g2, h⟩ := gd_some h
      refine ag_29 (by omega) y1.toNatClampNeg rfl dX1_meetInFlood_42 g2 ?_
      have w2 := inb_lt g2
      refine h_iload_n dX1_meetInFlood_43 rfl ?_
      obtain ⟨g3, h⟩ := gd_some h
      refine al_30 (by omega) (by omega) v1.toNatClampNeg rfl dX1_meetInFlood_44 g3 ?_
      refine h_iconst (-1 : Int32) dX1_meetInFlood_45 k_iconst_m1 ?_
      refine h_icmp_eq (tgt := 74) dX1_meetInFlood_46 (by decide) (fun q3 => ?_) (fun q3 => ?_)
      · rw [if_pos q3] at h
        refine h_iinc (1 : Int32) dX1_meetInFlood_74 rfl k_iinc_1 (by decide) rfl ?_
        refine h_goto (tgt := 6) dX1_meetInFlood_77 (by decide) ?_
        exact h_mask [true, true, true, true, true, true, false] (H6 _ _ _ _ _ _ h)
      · rw [if_neg q3] at h
        refine h_aload_n dX1_meetInFlood_49 rfl ?_
        refine g_X1_44 (by omega) dX1_meetInFlood_50 ?_
        refine g_X1_198 (by omega) dX1_meetInFlood_53 ?_
        refine h_iload dX1_meetInFlood_56 rfl ?_
        refine ag_29 (by omega) y1.toNatClampNeg rfl dX1_meetInFlood_58 g2 ?_
        refine h_iload_n dX1_meetInFlood_59 rfl ?_
        refine al_30 (by omega) (by omega) v1.toNatClampNeg rfl dX1_meetInFlood_60 g3 ?_
        refine h_iload_n dX1_meetInFlood_61 rfl ?_
        refine h_icmp_gt (tgt := 74) dX1_meetInFlood_62 (by decide) (fun q4 => ?_) (fun q4 => ?_)
        · rw [if_pos q4] at h
          refine h_iinc (1 : Int32) dX1_meetInFlood_74 rfl k_iinc_1 (by decide) rfl ?_
          refine h_goto (tgt := 6) dX1_meetInFlood_77 (by decide) ?_
          exact h_mask [true, true, true, true, true, true, false] (H6 _ _ _ _ _ _ h)
        · rw [if_neg q4] at h
          refine h_iload dX1_meetInFlood_65 rfl ?_
          refine h_iconst (1 : Int32) dX1_meetInFlood_67 k_iconst_1 ?_
          refine h_iload dX1_meetInFlood_68 rfl ?_
          refine h_shl dX1_meetInFlood_70 ?_
          refine h_ior dX1_meetInFlood_71 ?_
          obtain ⟨x1, e1, h⟩ := bnd_some h
          refine h_nmv e1 ?_
          refine h_istore dX1_meetInFlood_72 (by decide) rfl ?_
          refine h_iinc (1 : Int32) dX1_meetInFlood_74 rfl k_iinc_1 (by decide) rfl ?_
          refine h_goto (tgt := 6) dX1_meetInFlood_77 (by decide) ?_
          exact h_mask [true, true, true, true, true, true, false] (H6 _ _ _ _ _ _ h)
def f_X1_meetInFlood  (P : PMem) (z0 : Nat) (I : Mem) (v1 : Int32) (v2 : Int32) (v3 : Int32) : Option (Mem) :=
  f_X1_meetInFlood_6 P z0 FU I v1 v2 v3 (0 : Int32) (0 : Int32)
theorem b_X1_meetInFlood (X : CX) (Q : State → Prop) {I : Mem} {P : PMem} {O : Nat → Int64} {D : Bool} {n : Nat} {z0 : Nat} {v1 : Int32} {v2 : Int32} {v3 : Int32} {r : (Mem)}  (hz0 : z0 < 2) (h : f_X1_meetInFlood P z0 I v1 v2 v3 = some r) (E : EndR X cX1_meetInFlood RX1 7 (none) 3 n none r P O D Q) : Here X cX1_meetInFlood RX1 7 (none) 3 n 0 [some (.inr (.inr (1, z0, 0))), some (.inl v1), some (.inl v2), some (.inl v3), none, none, none] [] I P O D n Q := by
  unfold f_X1_meetInFlood at h
  refine h_iconst (0 : Int32) dX1_meetInFlood_0 k_iconst_0 ?_
  refine h_istore dX1_meetInFlood_1 (by decide) rfl ?_
  refine h_iconst (0 : Int32) dX1_meetInFlood_3 k_iconst_0 ?_
  refine h_istore dX1_meetInFlood_4 (by decide) rfl ?_
  exact (b_X1_meetInFlood_6 X Q hz0 FU  h E)
theorem m_X1_meetInFlood {I : Mem} {P : PMem} {O : Nat → Int64} {D : Bool} {n : Nat} {z0 : Nat} {v1 : Int32} {v2 : Int32} {v3 : Int32} {r : (Mem)} (hz0 : z0 < 2) (h : f_X1_meetInFlood P z0 I v1 v2 v3 = some r) : MethR yX1_meetInFlood cX1_meetInFlood 7 (none) 3 [.inr (.inr (1, z0, 0)), .inl v1, .inl v2, .inl v3] I P O D n none r P O D n := meth_R (Nat.le_refl _) (by decide) rfl (Nat.le_of_ble_eq_true rfl) rfl (fun X Q E => b_X1_meetInFlood X Q hz0 h E)
def f_X1_meetAll_71  (P : PMem) (z0 : Nat) : Nat → Mem → Nat → Int32 → Option (Mem)
  | 0, _, _, _ => none
  | fu + 1, I, z2, v3 =>
    if (I 6 z2 0 3) ≤ v3 then (some I) else (gd (inb v3 (rowsLen z2)) <|
    (f_X1_meetInFlood P z0 I (I 44 z2 0 v3.toNatClampNeg) (I 45 z2 0 v3.toNatClampNeg) (I 46 z2 0 v3.toNatClampNeg)).bind fun y1 =>
    (f_X1_meetAll_71 P z0 fu) y1 z2 (v3 + (1 : Int32)))
theorem b_X1_meetAll_71 (X : CX) (Q : State → Prop) {P : PMem} {O : Nat → Int64} {D : Bool} {n : Nat} {z0 : Nat} {r : (Mem)}  (hz0 : z0 < 2) : ∀ (fu : Nat) {I : Mem} {z2 : Nat} {v3 : Int32} (hz2 : z2 < 10), f_X1_meetAll_71 P z0 fu I z2 v3 = some r → EndR X cX1_meetAll RX1 5 (none) 4 n none r P O D Q → Here X cX1_meetAll RX1 5 (none) 4 n 71 [some (.inr (.inr (1, z0, 0))), none, some (.inr (.inr (6, z2, 0))), some (.inl v3), none] [] I P O D n Q := by
  intro fu
  induction fu with
  | zero => intro I z2 v3 hz2 h E; cases h
  | succ fu ih =>
  intro I z2 v3 hz2 h E
  have H71 : ∀ (I : Mem) (z2 : Nat) (v3 : Int32), z2 < 10 → f_X1_meetAll_71 P z0 fu I z2 v3 = some r → Here X cX1_meetAll RX1 5 (none) 4 n 71 [some (.inr (.inr (1, z0, 0))), none, some (.inr (.inr (6, z2, 0))), some (.inl v3), none] [] I P O D n Q := fun _ _ _ a0 b => ih a0 b E
  simp only [f_X1_meetAll_71] at h
  refine h_iload_n dX1_meetAll_71 rfl ?_
  refine h_aload_n dX1_meetAll_72 rfl ?_
  refine g_X1_144 (by omega) dX1_meetAll_73 ?_
  refine h_icmp_ge (tgt := 107) dX1_meetAll_76 (by decide) (fun q1 => ?_) (fun q1 => ?_)
  · rw [if_pos q1] at h
    cases h
    exact h_vret dX1_meetAll_107 rfl E
  · rw [if_neg q1] at h
    refine h_aload_n dX1_meetAll_79 rfl ?_
    refine h_aload_n dX1_meetAll_80 rfl ?_
    refine g_X1_149 (by omega) dX1_meetAll_81 ?_
    refine h_iload_n dX1_meetAll_84 rfl ?_
    obtain ⟨g1, h⟩ := gd_some h
    refine al_44 (by omega) v3.toNatClampNeg rfl dX1_meetAll_85 g1 ?_
    refine h_aload_n dX1_meetAll_86 rfl ?_
    refine g_X1_152 (by omega) dX1_meetAll_87 ?_
    refine h_iload_n dX1_meetAll_90 rfl ?_
    refine al_45 (by omega) v3.toNatClampNeg rfl dX1_meetAll_91 g1 ?_
    refine h_aload_n dX1_meetAll_92 rfl ?_
    refine g_X1_155 (by omega) dX1_meetAll_93 ?_
    refine h_iload_n dX1_meetAll_96 rfl ?_
    refine al_46 (by omega) v3.toNatClampNeg rfl dX1_meetAll_97 g1 ?_
    obtain ⟨y1, hh1, h⟩ := obd_some h
    refine h_cVv [.inl (I 44 z2 0 v3.toNatClampNeg), .inl (I 45 z2 0 v3.toNatClampNeg), .inl (I 46 z2 0 v3.toNatClampNeg)] (m_X1_meetInFlood (by omega) hh1) cw_X1_192 dX1_meetAll_98 rfl (ok_1 (by omega)) (by decide) rfl (Or.inr rfl) rfl ?_
    refine h_iinc (1 : Int32) dX1_meetAll_101 rfl k_iinc_1 (by decide) rfl ?_
    refine h_goto (tgt := 71) dX1_meetAll_104 (by decide) ?_
    exact (H71 _ _ _ (by omega) h)
def f_X1_meetAll_15 (k2 : Mem → Int32 → Int32 → Option (Mem)) (P : PMem) (z0 : Nat) : Nat → Mem → Int32 → Int32 → Int32 → Option (Mem)
  | 0, _, _, _, _ => none
  | fu + 1, I, v1, v2, v3 =>
    if v2 ≤ v3 then (k2 I v1 (v2 + (1 : Int32))) else ((f_X1_firstInnDay I P z0 v2 v3 v1).bind fun y1 =>
    gd (inb v2 5) <|
    gd (inb v3 5) <|
    bnd (upd4 I 23 z0 v2.toNatClampNeg v3.toNatClampNeg y1) fun I1' =>
    bnd (upd4 I1' 23 z0 v3.toNatClampNeg v2.toNatClampNeg y1) fun I2' =>
    (f_X1_meetAll_15 k2 P z0 fu) I2' v1 v2 (v3 + (1 : Int32)))
theorem b_X1_meetAll_15 (X : CX) (Q : State → Prop) {P : PMem} {O : Nat → Int64} {D : Bool} {n : Nat} {k2 : Mem → Int32 → Int32 → Option (Mem)} {z0 : Nat} {r : (Mem)}  (H2 : ∀ (I : Mem) (v1 : Int32) (v2 : Int32), k2 I v1 v2 = some r → Here X cX1_meetAll RX1 5 (none) 4 n 2 [some (.inr (.inr (1, z0, 0))), some (.inl v1), some (.inl v2), none, none] [] I P O D n Q) (hz0 : z0 < 2) : ∀ (fu : Nat) {I : Mem} {v1 : Int32} {v2 : Int32} {v3 : Int32}, f_X1_meetAll_15 k2 P z0 fu I v1 v2 v3 = some r → EndR X cX1_meetAll RX1 5 (none) 4 n none r P O D Q → Here X cX1_meetAll RX1 5 (none) 4 n 15 [some (.inr (.inr (1, z0, 0))), some (.inl v1), some (.inl v2), some (.inl v3), none] [] I P O D n Q := by
  intro fu
  induction fu with
  | zero => intro I v1 v2 v3 h E; cases h
  | succ fu ih =>
  intro I v1 v2 v3 h E
  have H15 : ∀ (I : Mem) (v1 : Int32) (v2 : Int32) (v3 : Int32), f_X1_meetAll_15 k2 P z0 fu I v1 v2 v3 = some r → Here X cX1_meetAll RX1 5 (none) 4 n 15 [some (.inr (.inr (1, z0, 0))), some (.inl v1), some (.inl v2), some (.inl v3), none] [] I P O D n Q := fun _ _ _ _ b => ih b E
  simp only [f_X1_meetAll_15] at h
  refine h_iload_n dX1_meetAll_15 rfl ?_
  refine h_iload_n dX1_meetAll_16 rfl ?_
  refine h_icmp_ge (tgt := 55) dX1_meetAll_17 (by decide) (fun q1 => ?_) (fun q1 => ?_)
  · rw [if_pos q1] at h
    refine h_iinc (1 : Int32) dX1_meetAll_55 rfl k_iinc_1 (by decide) rfl ?_
    refine h_goto (tgt := 2) dX1_meetAll_58 (by decide) ?_
    exact h_mask [true, true, true, false, false] (H2 _ _ _ h)
  · rw [if_neg q1] at h
    refine h_aload_n dX1_meetAll_20 rfl ?_
    refine h_iload_n dX1_meetAll_21 rfl ?_
    refine h_iload_n dX1_meetAll_22 rfl ?_
    refine h_iload_n dX1_meetAll_23 rfl ?_
    obtain ⟨y1, hh1, h⟩ := obd_some h
    refine h_cVi [.inl v2, .inl v3, .inl v1] (m_X1_firstInnDay (by omega) hh1) cw_X1_186 dX1_meetAll_24 rfl (ok_1 (by omega)) (by decide) rfl (Or.inr rfl) rfl ?_
    refine h_istore dX1_meetAll_27 (by decide) rfl ?_
    refine h_aload_n dX1_meetAll_29 rfl ?_
    refine g_X1_32 (by omega) dX1_meetAll_30 ?_
    refine h_iload_n dX1_meetAll_33 rfl ?_
    obtain ⟨g1, h⟩ := gd_some h
    refine ag_22 (by omega) v2.toNatClampNeg rfl dX1_meetAll_34 g1 ?_
    have w1 := inb_lt g1
    refine h_iload_n dX1_meetAll_35 rfl ?_
    refine h_iload dX1_meetAll_36 rfl ?_
    obtain ⟨g2, h⟩ := gd_some h
    obtain ⟨I1', e1, h⟩ := bnd_some h
    refine as_23 (by omega) (by omega) v3.toNatClampNeg rfl dX1_meetAll_38 g2 ?_
    refine h_nmI e1 ?_
    refine h_aload_n dX1_meetAll_39 rfl ?_
    refine g_X1_32 (by omega) dX1_meetAll_40 ?_
    refine h_iload_n dX1_meetAll_43 rfl ?_
    refine ag_22 (by omega) v3.toNatClampNeg rfl dX1_meetAll_44 g2 ?_
    have w2 := inb_lt g2
    refine h_iload_n dX1_meetAll_45 rfl ?_
    refine h_iload dX1_meetAll_46 rfl ?_
    obtain ⟨I2', e2, h⟩ := bnd_some h
    refine as_23 (by omega) (by omega) v2.toNatClampNeg rfl dX1_meetAll_48 g1 ?_
    refine h_nmI e2 ?_
    refine h_iinc (1 : Int32) dX1_meetAll_49 rfl k_iinc_1 (by decide) rfl ?_
    refine h_goto (tgt := 15) dX1_meetAll_52 (by decide) ?_
    exact h_mask [true, true, true, true, false] (H15 _ _ _ _ h)
def f_X1_meetAll_2  (P : PMem) (z0 : Nat) : Nat → Mem → Int32 → Int32 → Option (Mem)
  | 0, _, _, _ => none
  | fu + 1, I, v1, v2 =>
    gd (decide ((P 1 z0 0 0) < 2)) <|
    if (I 3 (P 1 z0 0 0) 0 7) ≤ v2 then (gd (decide ((P 1 z0 0 1) < 2)) <|
    f_X1_meetAll_71 P z0 FU I (5 * (P 1 z0 0 1) + 2) (0 : Int32)) else (f_X1_meetAll_15 (f_X1_meetAll_2 P z0 fu) P z0 FU I v1 v2 (0 : Int32))
theorem b_X1_meetAll_2 (X : CX) (Q : State → Prop) {P : PMem} {O : Nat → Int64} {D : Bool} {n : Nat} {z0 : Nat} {r : (Mem)}  (hz0 : z0 < 2) : ∀ (fu : Nat) {I : Mem} {v1 : Int32} {v2 : Int32}, f_X1_meetAll_2 P z0 fu I v1 v2 = some r → EndR X cX1_meetAll RX1 5 (none) 4 n none r P O D Q → Here X cX1_meetAll RX1 5 (none) 4 n 2 [some (.inr (.inr (1, z0, 0))), some (.inl v1), some (.inl v2), none, none] [] I P O D n Q := by
  intro fu
  induction fu with
  | zero => intro I v1 v2 h E; cases h
  | succ fu ih =>
  intro I v1 v2 h E
  have H2 : ∀ (I : Mem) (v1 : Int32) (v2 : Int32), f_X1_meetAll_2 P z0 fu I v1 v2 = some r → Here X cX1_meetAll RX1 5 (none) 4 n 2 [some (.inr (.inr (1, z0, 0))), some (.inl v1), some (.inl v2), none, none] [] I P O D n Q := fun _ _ _ b => ih b E
  simp only [f_X1_meetAll_2] at h
  refine h_iload_n dX1_meetAll_2 rfl ?_
  refine h_aload_n dX1_meetAll_3 rfl ?_
  refine g_X1_44 (by omega) dX1_meetAll_4 ?_
  obtain ⟨g1, h⟩ := gd_some h
  have w1 := of_decide_eq_true g1
  refine g_X1_56 (by omega) dX1_meetAll_7 ?_
  refine h_icmp_ge (tgt := 61) dX1_meetAll_10 (by decide) (fun q1 => ?_) (fun q1 => ?_)
  · rw [if_pos q1] at h
    refine h_aload_n dX1_meetAll_61 rfl ?_
    refine g_X1_48 (by omega) dX1_meetAll_62 ?_
    obtain ⟨g2, h⟩ := gd_some h
    have w2 := of_decide_eq_true g2
    refine g_X1_189 (by omega) dX1_meetAll_65 ?_
    refine h_astore_n dX1_meetAll_68 (by decide) rfl ?_
    refine h_iconst (0 : Int32) dX1_meetAll_69 k_iconst_0 ?_
    refine h_istore_n dX1_meetAll_70 (by decide) rfl ?_
    exact h_mask [true, false, true, true, false] (b_X1_meetAll_71 X Q hz0 FU (by omega) h E)
  · rw [if_neg q1] at h
    refine h_iconst (0 : Int32) dX1_meetAll_13 k_iconst_0 ?_
    refine h_istore_n dX1_meetAll_14 (by decide) rfl ?_
    exact (b_X1_meetAll_15 X Q H2 hz0 FU  h E)
def f_X1_meetAll  (P : PMem) (z0 : Nat) (I : Mem) (v1 : Int32) : Option (Mem) :=
  f_X1_meetAll_2 P z0 FU I v1 (0 : Int32)
theorem b_X1_meetAll (X : CX) (Q : State → Prop) {I : Mem} {P : PMem} {O : Nat → Int64} {D : Bool} {n : Nat} {z0 : Nat} {v1 : Int32} {r : (Mem)}  (hz0 : z0 < 2) (h : f_X1_meetAll P z0 I v1 = some r) (E : EndR X cX1_meetAll RX1 5 (none) 4 n none r P O D Q) : Here X cX1_meetAll RX1 5 (none) 4 n 0 [some (.inr (.inr (1, z0, 0))), some (.inl v1), none, none, none] [] I P O D n Q := by
  unfold f_X1_meetAll at h
  refine h_iconst (0 : Int32) dX1_meetAll_0 k_iconst_0 ?_
  refine h_istore_n dX1_meetAll_1 (by decide) rfl ?_
  exact (b_X1_meetAll_2 X Q hz0 FU  h E)
theorem m_X1_meetAll {I : Mem} {P : PMem} {O : Nat → Int64} {D : Bool} {n : Nat} {z0 : Nat} {v1 : Int32} {r : (Mem)} (hz0 : z0 < 2) (h : f_X1_meetAll P z0 I v1 = some r) : MethR yX1_meetAll cX1_meetAll 5 (none) 4 [.inr (.inr (1, z0, 0)), .inl v1] I P O D n none r P O D n := meth_R (Nat.le_refl _) (by decide) rfl (Nat.le_of_ble_eq_true rfl) rfl (fun X Q E => b_X1_meetAll X Q hz0 h E)
def f_X1_whoSaidGuilty_4  (I : Mem) (P : PMem) (z0 : Nat) : Nat → Int32 → Int32 → Int32 → Option (Int32)
  | 0, _, _, _ => none
  | fu + 1, v1, v2, v3 =>
    gd (decide ((P 1 z0 0 0) < 2)) <|
    if (I 3 (P 1 z0 0 0) 0 7) ≤ v3 then (some v2) else (gd (inb v1 6) <|
    gd (inb v3 5) <|
    if (I 20 z0 v1.toNatClampNeg v3.toNatClampNeg) = (1 : Int32) then (bnd (v2 ||| (jshl (1 : Int32) v3)) fun x1 =>
    (f_X1_whoSaidGuilty_4 I P z0 fu) v1 x1 (v3 + (1 : Int32))) else ((f_X1_whoSaidGuilty_4 I P z0 fu) v1 v2 (v3 + (1 : Int32))))
theorem b_X1_whoSaidGuilty_4 (X : CX) (Q : State → Prop) {I : Mem} {P : PMem} {O : Nat → Int64} {D : Bool} {n : Nat} {z0 : Nat} {r : (Int32)}  (hz0 : z0 < 2) : ∀ (fu : Nat) {v1 : Int32} {v2 : Int32} {v3 : Int32}, f_X1_whoSaidGuilty_4 I P z0 fu v1 v2 v3 = some r → EndR X cX1_whoSaidGuilty RX1 4 (some .int) 2 n (some (.inl r)) I P O D Q → Here X cX1_whoSaidGuilty RX1 4 (some .int) 2 n 4 [some (.inr (.inr (1, z0, 0))), some (.inl v1), some (.inl v2), some (.inl v3)] [] I P O D n Q := by
  intro fu
  induction fu with
  | zero => intro v1 v2 v3 h E; cases h
  | succ fu ih =>
  intro v1 v2 v3 h E
  have H4 : ∀ (v1 : Int32) (v2 : Int32) (v3 : Int32), f_X1_whoSaidGuilty_4 I P z0 fu v1 v2 v3 = some r → Here X cX1_whoSaidGuilty RX1 4 (some .int) 2 n 4 [some (.inr (.inr (1, z0, 0))), some (.inl v1), some (.inl v2), some (.inl v3)] [] I P O D n Q := fun _ _ _ b => ih b E
  simp only [f_X1_whoSaidGuilty_4] at h
  refine h_iload_n dX1_whoSaidGuilty_4 rfl ?_
  refine h_aload_n dX1_whoSaidGuilty_5 rfl ?_
  refine g_X1_44 (by omega) dX1_whoSaidGuilty_6 ?_
  obtain ⟨g1, h⟩ := gd_some h
  have w1 := of_decide_eq_true g1
  refine g_X1_56 (by omega) dX1_whoSaidGuilty_9 ?_
  refine h_icmp_ge (tgt := 39) dX1_whoSaidGuilty_12 (by decide) (fun q1 => ?_) (fun q1 => ?_)
  · rw [if_pos q1] at h
    refine h_iload_n dX1_whoSaidGuilty_39 rfl ?_
    cases h
    exact h_iret dX1_whoSaidGuilty_40 rfl E
  · rw [if_neg q1] at h
    refine h_aload_n dX1_whoSaidGuilty_15 rfl ?_
    refine g_X1_25 (by omega) dX1_whoSaidGuilty_16 ?_
    refine h_iload_n dX1_whoSaidGuilty_19 rfl ?_
    obtain ⟨g2, h⟩ := gd_some h
    refine ag_19 (by omega) v1.toNatClampNeg rfl dX1_whoSaidGuilty_20 g2 ?_
    have w2 := inb_lt g2
    refine h_iload_n dX1_whoSaidGuilty_21 rfl ?_
    obtain ⟨g3, h⟩ := gd_some h
    refine al_20 (by omega) (by omega) v3.toNatClampNeg rfl dX1_whoSaidGuilty_22 g3 ?_
    refine h_iconst (1 : Int32) dX1_whoSaidGuilty_23 k_iconst_1 ?_
    refine h_icmp_ne (tgt := 33) dX1_whoSaidGuilty_24 (by decide) (fun q2 => ?_) (fun q2 => ?_)
    · rw [if_neg q2] at h
      refine h_iinc (1 : Int32) dX1_whoSaidGuilty_33 rfl k_iinc_1 (by decide) rfl ?_
      refine h_goto (tgt := 4) dX1_whoSaidGuilty_36 (by decide) ?_
      exact (H4 _ _ _ h)
    · rw [if_pos q2] at h
      refine h_iload_n dX1_whoSaidGuilty_27 rfl ?_
      refine h_iconst (1 : Int32) dX1_whoSaidGuilty_28 k_iconst_1 ?_
      refine h_iload_n dX1_whoSaidGuilty_29 rfl ?_
      refine h_shl dX1_whoSaidGuilty_30 ?_
      refine h_ior dX1_whoSaidGuilty_31 ?_
      obtain ⟨x1, e1, h⟩ := bnd_some h
      refine h_nmv e1 ?_
      refine h_istore_n dX1_whoSaidGuilty_32 (by decide) rfl ?_
      refine h_iinc (1 : Int32) dX1_whoSaidGuilty_33 rfl k_iinc_1 (by decide) rfl ?_
      refine h_goto (tgt := 4) dX1_whoSaidGuilty_36 (by decide) ?_
      exact (H4 _ _ _ h)
def f_X1_whoSaidGuilty  (I : Mem) (P : PMem) (z0 : Nat) (v1 : Int32) : Option (Int32) :=
  f_X1_whoSaidGuilty_4 I P z0 FU v1 (0 : Int32) (0 : Int32)
theorem b_X1_whoSaidGuilty (X : CX) (Q : State → Prop) {I : Mem} {P : PMem} {O : Nat → Int64} {D : Bool} {n : Nat} {z0 : Nat} {v1 : Int32} {r : (Int32)}  (hz0 : z0 < 2) (h : f_X1_whoSaidGuilty I P z0 v1 = some r) (E : EndR X cX1_whoSaidGuilty RX1 4 (some .int) 2 n (some (.inl r)) I P O D Q) : Here X cX1_whoSaidGuilty RX1 4 (some .int) 2 n 0 [some (.inr (.inr (1, z0, 0))), some (.inl v1), none, none] [] I P O D n Q := by
  unfold f_X1_whoSaidGuilty at h
  refine h_iconst (0 : Int32) dX1_whoSaidGuilty_0 k_iconst_0 ?_
  refine h_istore_n dX1_whoSaidGuilty_1 (by decide) rfl ?_
  refine h_iconst (0 : Int32) dX1_whoSaidGuilty_2 k_iconst_0 ?_
  refine h_istore_n dX1_whoSaidGuilty_3 (by decide) rfl ?_
  exact (b_X1_whoSaidGuilty_4 X Q hz0 FU  h E)
theorem m_X1_whoSaidGuilty {I : Mem} {P : PMem} {O : Nat → Int64} {D : Bool} {n : Nat} {z0 : Nat} {v1 : Int32} {r : (Int32)} (hz0 : z0 < 2) (h : f_X1_whoSaidGuilty I P z0 v1 = some r) : MethR yX1_whoSaidGuilty cX1_whoSaidGuilty 4 (some .int) 2 [.inr (.inr (1, z0, 0)), .inl v1] I P O D n (some (.inl r)) I P O D n := meth_R (Nat.le_refl _) (by decide) rfl (Nat.le_of_ble_eq_true rfl) rfl (fun X Q E => b_X1_whoSaidGuilty X Q hz0 h E)
def f_X1_latestDay  (I : Mem) (z0 : Nat) (v1 : Int32) (v2 : Int32) (v3 : Int32) (v4 : Int32) : Option (Int32) :=
  gd (inb v1 6) <|
  gd (inb v2 5) <|
  gd (inb v3 5) <|
  gd (inb v4 5) <|
  some (jmax (I 16 z0 v1.toNatClampNeg v2.toNatClampNeg) (jmax (I 16 z0 v1.toNatClampNeg v3.toNatClampNeg) (I 16 z0 v1.toNatClampNeg v4.toNatClampNeg)))
theorem b_X1_latestDay (X : CX) (Q : State → Prop) {I : Mem} {P : PMem} {O : Nat → Int64} {D : Bool} {n : Nat} {z0 : Nat} {v1 : Int32} {v2 : Int32} {v3 : Int32} {v4 : Int32} {r : (Int32)}  (hz0 : z0 < 2) (h : f_X1_latestDay I z0 v1 v2 v3 v4 = some r) (E : EndR X cX1_latestDay RX1 6 (some .int) 2 n (some (.inl r)) I P O D Q) : Here X cX1_latestDay RX1 6 (some .int) 2 n 0 [some (.inr (.inr (1, z0, 0))), some (.inl v1), some (.inl v2), some (.inl v3), some (.inl v4), none] [] I P O D n Q := by
  unfold f_X1_latestDay at h
  refine h_aload_n dX1_latestDay_0 rfl ?_
  refine g_X1_19 (by omega) dX1_latestDay_1 ?_
  refine h_iload_n dX1_latestDay_4 rfl ?_
  obtain ⟨g1, h⟩ := gd_some h
  refine ag_15 (by omega) v1.toNatClampNeg rfl dX1_latestDay_5 g1 ?_
  have w1 := inb_lt g1
  refine h_astore dX1_latestDay_6 (by decide) rfl ?_
  refine h_aload dX1_latestDay_8 rfl ?_
  refine h_iload_n dX1_latestDay_10 rfl ?_
  obtain ⟨g2, h⟩ := gd_some h
  refine al_16 (by omega) (by omega) v2.toNatClampNeg rfl dX1_latestDay_11 g2 ?_
  refine h_aload dX1_latestDay_12 rfl ?_
  refine h_iload_n dX1_latestDay_14 rfl ?_
  obtain ⟨g3, h⟩ := gd_some h
  refine al_16 (by omega) (by omega) v3.toNatClampNeg rfl dX1_latestDay_15 g3 ?_
  refine h_aload dX1_latestDay_16 rfl ?_
  refine h_iload dX1_latestDay_18 rfl ?_
  obtain ⟨g4, h⟩ := gd_some h
  refine al_16 (by omega) (by omega) v4.toNatClampNeg rfl dX1_latestDay_20 g4 ?_
  refine h_max dX1_latestDay_21 ml_X1_178 wm1_max wm2 wm3_max (by decide) rfl ?_
  refine h_max dX1_latestDay_24 ml_X1_178 wm1_max wm2 wm3_max (by decide) rfl ?_
  cases h
  exact h_iret dX1_latestDay_27 rfl E
theorem m_X1_latestDay {I : Mem} {P : PMem} {O : Nat → Int64} {D : Bool} {n : Nat} {z0 : Nat} {v1 : Int32} {v2 : Int32} {v3 : Int32} {v4 : Int32} {r : (Int32)} (hz0 : z0 < 2) (h : f_X1_latestDay I z0 v1 v2 v3 v4 = some r) : MethR yX1_latestDay cX1_latestDay 6 (some .int) 2 [.inr (.inr (1, z0, 0)), .inl v1, .inl v2, .inl v3, .inl v4] I P O D n (some (.inl r)) I P O D n := meth_R (Nat.le_refl _) (by decide) rfl (Nat.le_of_ble_eq_true rfl) rfl (fun X Q E => b_X1_latestDay X Q hz0 h E)
def f_X1_areInThreeTowns  (I : Mem) (z0 : Nat) (v1 : Int32) (v2 : Int32) (v3 : Int32) (v4 : Int32) : Option (Int32) :=
  gd (inb v1 6) <|
  gd (inb v2 5) <|
  gd (inb v3 5) <|
  if (I 18 z0 v1.toNatClampNeg v2.toNatClampNeg) = (I 18 z0 v1.toNatClampNeg v3.toNatClampNeg) then (some (0 : Int32)) else (gd (inb v4 5) <|
  if (I 18 z0 v1.toNatClampNeg v2.toNatClampNeg) = (I 18 z0 v1.toNatClampNeg v4.toNatClampNeg) then (some (0 : Int32)) else (if (I 18 z0 v1.toNatClampNeg v3.toNatClampNeg) = (I 18 z0 v1.toNatClampNeg v4.toNatClampNeg) then (some (0 : Int32)) else (some (1 : Int32))))
theorem b_X1_areInThreeTowns (X : CX) (Q : State → Prop) {I : Mem} {P : PMem} {O : Nat → Int64} {D : Bool} {n : Nat} {z0 : Nat} {v1 : Int32} {v2 : Int32} {v3 : Int32} {v4 : Int32} {r : (Int32)}  (hz0 : z0 < 2) (h : f_X1_areInThreeTowns I z0 v1 v2 v3 v4 = some r) (E : EndR X cX1_areInThreeTowns RX1 6 (some .boolean) 2 n (some (.inl r)) I P O D Q) : Here X cX1_areInThreeTowns RX1 6 (some .boolean) 2 n 0 [some (.inr (.inr (1, z0, 0))), some (.inl v1), some (.inl v2), some (.inl v3), some (.inl v4), none] [] I P O D n Q := by
  unfold f_X1_areInThreeTowns at h
  refine h_aload_n dX1_areInThreeTowns_0 rfl ?_
  refine g_X1_22 (by omega) dX1_areInThreeTowns_1 ?_
  refine h_iload_n dX1_areInThreeTowns_4 rfl ?_
  obtain ⟨g1, h⟩ := gd_some h
  refine ag_17 (by omega) v1.toNatClampNeg rfl dX1_areInThreeTowns_5 g1 ?_
  have w1 := inb_lt g1
  refine h_astore dX1_areInThreeTowns_6 (by decide) rfl ?_
  refine h_aload dX1_areInThreeTowns_8 rfl ?_
  refine h_iload_n dX1_areInThreeTowns_10 rfl ?_
  obtain ⟨g2, h⟩ := gd_some h
  refine al_18 (by omega) (by omega) v2.toNatClampNeg rfl dX1_areInThreeTowns_11 g2 ?_
  refine h_aload dX1_areInThreeTowns_12 rfl ?_
  refine h_iload_n dX1_areInThreeTowns_14 rfl ?_
  obtain ⟨g3, h⟩ := gd_some h
  refine al_18 (by omega) (by omega) v3.toNatClampNeg rfl dX1_areInThreeTowns_15 g3 ?_
  refine h_icmp_eq (tgt := 47) dX1_areInThreeTowns_16 (by decide) (fun q1 => ?_) (fun q1 => ?_)
  · rw [if_pos q1] at h
    refine h_iconst (0 : Int32) dX1_areInThreeTowns_47 k_iconst_0 ?_
    cases h
    exact h_zret dX1_areInThreeTowns_48 rfl rfl E
  · rw [if_neg q1] at h
    refine h_aload dX1_areInThreeTowns_19 rfl ?_
    refine h_iload_n dX1_areInThreeTowns_21 rfl ?_
    refine al_18 (by omega) (by omega) v2.toNatClampNeg rfl dX1_areInThreeTowns_22 g2 ?_
    refine h_aload dX1_areInThreeTowns_23 rfl ?_
    refine h_iload dX1_areInThreeTowns_25 rfl ?_
    obtain ⟨g4, h⟩ := gd_some h
    refine al_18 (by omega) (by omega) v4.toNatClampNeg rfl dX1_areInThreeTowns_27 g4 ?_
    refine h_icmp_eq (tgt := 47) dX1_areInThreeTowns_28 (by decide) (fun q2 => ?_) (fun q2 => ?_)
    · rw [if_pos q2] at h
      refine h_iconst (0 : Int32) dX1_areInThreeTowns_47 k_iconst_0 ?_
      cases h
      exact h_zret dX1_areInThreeTowns_48 rfl rfl E
    · rw [if_neg q2] at h
      refine h_aload dX1_areInThreeTowns_31 rfl ?_
      refine h_iload_n dX1_areInThreeTowns_33 rfl ?_
      refine al_18 (by omega) (by omega) v3.toNatClampNeg rfl dX1_areInThreeTowns_34 g3 ?_
      refine h_aload dX1_areInThreeTowns_35 rfl ?_
      refine h_iload dX1_areInThreeTowns_37 rfl ?_
      refine al_18 (by omega) (by omega) v4.toNatClampNeg rfl dX1_areInThreeTowns_39 g4 ?_
      refine h_icmp_eq (tgt := 47) dX1_areInThreeTowns_40 (by decide) (fun q3 => ?_) (fun q3 => ?_)
      · rw [if_pos q3] at h
        refine h_iconst (0 : Int32) dX1_areInThreeTowns_47 k_iconst_0 ?_
        cases h
        exact h_zret dX1_areInThreeTowns_48 rfl rfl E
      · rw [if_neg q3] at h
        refine h_iconst (1 : Int32) dX1_areInThreeTowns_43 k_iconst_1 ?_
        refine h_goto (tgt := 48) dX1_areInThreeTowns_44 (by decide) ?_
        cases h
        exact h_zret dX1_areInThreeTowns_48 rfl rfl E
theorem m_X1_areInThreeTowns {I : Mem} {P : PMem} {O : Nat → Int64} {D : Bool} {n : Nat} {z0 : Nat} {v1 : Int32} {v2 : Int32} {v3 : Int32} {v4 : Int32} {r : (Int32)} (hz0 : z0 < 2) (h : f_X1_areInThreeTowns I z0 v1 v2 v3 v4 = some r) : MethR yX1_areInThreeTowns cX1_areInThreeTowns 6 (some .boolean) 2 [.inr (.inr (1, z0, 0)), .inl v1, .inl v2, .inl v3, .inl v4] I P O D n (some (.inl r)) I P O D n := meth_R (Nat.le_refl _) (by decide) rfl (Nat.le_of_ble_eq_true rfl) rfl (fun X Q E => b_X1_areInThreeTowns X Q hz0 h E)
def f_X1_areApart  (I : Mem) (z0 : Nat) (v1 : Int32) (v2 : Int32) (v3 : Int32) : Option (Int32) :=
  gd (inb v1 5) <|
  gd (inb v2 5) <|
  if (I 23 z0 v1.toNatClampNeg v2.toNatClampNeg) = (-1 : Int32) then (some (1 : Int32)) else (if (I 23 z0 v1.toNatClampNeg v2.toNatClampNeg) ≤ v3 then (some (0 : Int32)) else (some (1 : Int32)))
theorem b_X1_areApart (X : CX) (Q : State → Prop) {I : Mem} {P : PMem} {O : Nat → Int64} {D : Bool} {n : Nat} {z0 : Nat} {v1 : Int32} {v2 : Int32} {v3 : Int32} {r : (Int32)}  (hz0 : z0 < 2) (h : f_X1_areApart I z0 v1 v2 v3 = some r) (E : EndR X cX1_areApart RX1 4 (some .boolean) 2 n (some (.inl r)) I P O D Q) : Here X cX1_areApart RX1 4 (some .boolean) 2 n 0 [some (.inr (.inr (1, z0, 0))), some (.inl v1), some (.inl v2), some (.inl v3)] [] I P O D n Q := by
  unfold f_X1_areApart at h
  refine h_aload_n dX1_areApart_0 rfl ?_
  refine g_X1_32 (by omega) dX1_areApart_1 ?_
  refine h_iload_n dX1_areApart_4 rfl ?_
  obtain ⟨g1, h⟩ := gd_some h
  refine ag_22 (by omega) v1.toNatClampNeg rfl dX1_areApart_5 g1 ?_
  have w1 := inb_lt g1
  refine h_iload_n dX1_areApart_6 rfl ?_
  obtain ⟨g2, h⟩ := gd_some h
  refine al_23 (by omega) (by omega) v2.toNatClampNeg rfl dX1_areApart_7 g2 ?_
  refine h_iconst (-1 : Int32) dX1_areApart_8 k_iconst_m1 ?_
  refine h_icmp_eq (tgt := 24) dX1_areApart_9 (by decide) (fun q1 => ?_) (fun q1 => ?_)
  · rw [if_pos q1] at h
    refine h_iconst (1 : Int32) dX1_areApart_24 k_iconst_1 ?_
    refine h_goto (tgt := 29) dX1_areApart_25 (by decide) ?_
    cases h
    exact h_zret dX1_areApart_29 rfl rfl E
  · rw [if_neg q1] at h
    refine h_aload_n dX1_areApart_12 rfl ?_
    refine g_X1_32 (by omega) dX1_areApart_13 ?_
    refine h_iload_n dX1_areApart_16 rfl ?_
    refine ag_22 (by omega) v1.toNatClampNeg rfl dX1_areApart_17 g1 ?_
    refine h_iload_n dX1_areApart_18 rfl ?_
    refine al_23 (by omega) (by omega) v2.toNatClampNeg rfl dX1_areApart_19 g2 ?_
    refine h_iload_n dX1_areApart_20 rfl ?_
    refine h_icmp_le (tgt := 28) dX1_areApart_21 (by decide) (fun q2 => ?_) (fun q2 => ?_)
    · rw [if_pos q2] at h
      refine h_iconst (0 : Int32) dX1_areApart_28 k_iconst_0 ?_
      cases h
      exact h_zret dX1_areApart_29 rfl rfl E
    · rw [if_neg q2] at h
      refine h_iconst (1 : Int32) dX1_areApart_24 k_iconst_1 ?_
      refine h_goto (tgt := 29) dX1_areApart_25 (by decide) ?_
      cases h
      exact h_zret dX1_areApart_29 rfl rfl E
theorem m_X1_areApart {I : Mem} {P : PMem} {O : Nat → Int64} {D : Bool} {n : Nat} {z0 : Nat} {v1 : Int32} {v2 : Int32} {v3 : Int32} {r : (Int32)} (hz0 : z0 < 2) (h : f_X1_areApart I z0 v1 v2 v3 = some r) : MethR yX1_areApart cX1_areApart 4 (some .boolean) 2 [.inr (.inr (1, z0, 0)), .inl v1, .inl v2, .inl v3] I P O D n (some (.inl r)) I P O D n := meth_R (Nat.le_refl _) (by decide) rfl (Nat.le_of_ble_eq_true rfl) rfl (fun X Q E => b_X1_areApart X Q hz0 h E)
def f_X1_trioWith_134 (k71 : Int32 → Int32 → Int32 → Int32 → Int32 → Int32 → Int32 → Option (Int32)) (I : Mem) (P : PMem) (z0 : Nat) (v1 : Int32) (v5 : Int32) (v6 : Int32) (v7 : Int32) (v8 : Int32) (v9 : Int32) (v10 : Int32) (v11 : Int32) (v12 : Int32) : Option (Int32) :=
  (f_X1_areInThreeTowns I z0 v1 v8 v9 v10).bind fun y1 =>
  if y1 = 0 then (k71 v1 v5 v6 v7 v8 v9 (v10 + (1 : Int32))) else ((f_X1_areApart I z0 v8 v9 v12).bind fun y2 =>
  if y2 = 0 then (k71 v1 v5 v6 v7 v8 v9 (v10 + (1 : Int32))) else ((f_X1_areApart I z0 v8 v10 v12).bind fun y3 =>
  if y3 = 0 then (k71 v1 v5 v6 v7 v8 v9 (v10 + (1 : Int32))) else ((f_X1_areApart I z0 v9 v10 v12).bind fun y4 =>
  if y4 = 0 then (k71 v1 v5 v6 v7 v8 v9 (v10 + (1 : Int32))) else (k71 v1 v5 v11 v12 v8 v9 (v10 + (1 : Int32))))))
theorem b_X1_trioWith_134 (X : CX) (Q : State → Prop) {I : Mem} {P : PMem} {O : Nat → Int64} {D : Bool} {n : Nat} {k71 : Int32 → Int32 → Int32 → Int32 → Int32 → Int32 → Int32 → Option (Int32)} {z0 : Nat} {v1 : Int32} {v5 : Int32} {v6 : Int32} {v7 : Int32} {v8 : Int32} {v9 : Int32} {v10 : Int32} {v11 : Int32} {v12 : Int32} {r : (Int32)}  (H71 : ∀ (v1 : Int32) (v5 : Int32) (v6 : Int32) (v7 : Int32) (v8 : Int32) (v9 : Int32) (v10 : Int32), k71 v1 v5 v6 v7 v8 v9 v10 = some r → Here X cX1_trioWith RX1 13 (some .int) 3 n 71 [some (.inr (.inr (1, z0, 0))), some (.inl v1), none, none, none, some (.inl v5), some (.inl v6), some (.inl v7), some (.inl v8), some (.inl v9), some (.inl v10), none, none] [] I P O D n Q) (hz0 : z0 < 2) (h : f_X1_trioWith_134 k71 I P z0 v1 v5 v6 v7 v8 v9 v10 v11 v12 = some r) (E : EndR X cX1_trioWith RX1 13 (some .int) 3 n (some (.inl r)) I P O D Q) : Here X cX1_trioWith RX1 13 (some .int) 3 n 134 [some (.inr (.inr (1, z0, 0))), some (.inl v1), none, none, none, some (.inl v5), some (.inl v6), some (.inl v7), some (.inl v8), some (.inl v9), some (.inl v10), some (.inl v11), some (.inl v12)] [] I P O D n Q := by
  unfold f_X1_trioWith_134 at h
  refine h_aload_n dX1_trioWith_134 rfl ?_
  refine h_iload_n dX1_trioWith_135 rfl ?_
  refine h_iload dX1_trioWith_136 rfl ?_
  refine h_iload dX1_trioWith_138 rfl ?_
  refine h_iload dX1_trioWith_140 rfl ?_
  obtain ⟨y1, hh1, h⟩ := obd_some h
  refine h_cVi [.inl v1, .inl v8, .inl v9, .inl v10] (m_X1_areInThreeTowns (by omega) hh1) cw_X1_211 dX1_trioWith_142 rfl (ok_1 (by omega)) (by decide) rfl (Or.inr rfl) rfl ?_
  refine h_if_eq (tgt := 195) dX1_trioWith_145 (by decide) (fun q1 => ?_) (fun q1 => ?_)
  · rw [if_pos q1] at h
    refine h_iinc (1 : Int32) dX1_trioWith_195 rfl k_iinc_1 (by decide) rfl ?_
    refine h_goto (tgt := 71) dX1_trioWith_198 (by decide) ?_
    exact h_mask [true, true, false, false, false, true, true, true, true, true, true, false, false] (H71 _ _ _ _ _ _ _ h)
  · rw [if_neg q1] at h
    refine h_aload_n dX1_trioWith_148 rfl ?_
    refine h_iload dX1_trioWith_149 rfl ?_
    refine h_iload dX1_trioWith_151 rfl ?_
    refine h_iload dX1_trioWith_153 rfl ?_
    obtain ⟨y2, hh2, h⟩ := obd_some h
    refine h_cVi [.inl v8, .inl v9, .inl v12] (m_X1_areApart (by omega) hh2) cw_X1_214 dX1_trioWith_155 rfl (ok_1 (by omega)) (by decide) rfl (Or.inr rfl) rfl ?_
    refine h_if_eq (tgt := 195) dX1_trioWith_158 (by decide) (fun q2 => ?_) (fun q2 => ?_)
    · rw [if_pos q2] at h
      refine h_iinc (1 : Int32) dX1_trioWith_195 rfl k_iinc_1 (by decide) rfl ?_
      refine h_goto (tgt := 71) dX1_trioWith_198 (by decide) ?_
      exact h_mask [true, true, false, false, false, true, true, true, true, true, true, false, false] (H71 _ _ _ _ _ _ _ h)
    · rw [if_neg q2] at h
      refine h_aload_n dX1_trioWith_161 rfl ?_
      refine h_iload dX1_trioWith_162 rfl ?_
      refine h_iload dX1_trioWith_164 rfl ?_
      refine h_iload dX1_trioWith_166 rfl ?_
      obtain ⟨y3, hh3, h⟩ := obd_some h
      refine h_cVi [.inl v8, .inl v10, .inl v12] (m_X1_areApart (by omega) hh3) cw_X1_214 dX1_trioWith_168 rfl (ok_1 (by omega)) (by decide) rfl (Or.inr rfl) rfl ?_
      refine h_if_eq (tgt := 195) dX1_trioWith_171 (by decide) (fun q3 => ?_) (fun q3 => ?_)
      · rw [if_pos q3] at h
        refine h_iinc (1 : Int32) dX1_trioWith_195 rfl k_iinc_1 (by decide) rfl ?_
        refine h_goto (tgt := 71) dX1_trioWith_198 (by decide) ?_
        exact h_mask [true, true, false, false, false, true, true, true, true, true, true, false, false] (H71 _ _ _ _ _ _ _ h)
      · rw [if_neg q3] at h
        refine h_aload_n dX1_trioWith_174 rfl ?_
        refine h_iload dX1_trioWith_175 rfl ?_
        refine h_iload dX1_trioWith_177 rfl ?_
        refine h_iload dX1_trioWith_179 rfl ?_
        obtain ⟨y4, hh4, h⟩ := obd_some h
        refine h_cVi [.inl v9, .inl v10, .inl v12] (m_X1_areApart (by omega) hh4) cw_X1_214 dX1_trioWith_181 rfl (ok_1 (by omega)) (by decide) rfl (Or.inr rfl) rfl ?_
        refine h_if_eq (tgt := 195) dX1_trioWith_184 (by decide) (fun q4 => ?_) (fun q4 => ?_)
        · rw [if_pos q4] at h
          refine h_iinc (1 : Int32) dX1_trioWith_195 rfl k_iinc_1 (by decide) rfl ?_
          refine h_goto (tgt := 71) dX1_trioWith_198 (by decide) ?_
          exact h_mask [true, true, false, false, false, true, true, true, true, true, true, false, false] (H71 _ _ _ _ _ _ _ h)
        · rw [if_neg q4] at h
          refine h_iload dX1_trioWith_187 rfl ?_
          refine h_istore dX1_trioWith_189 (by decide) rfl ?_
          refine h_iload dX1_trioWith_191 rfl ?_
          refine h_istore dX1_trioWith_193 (by decide) rfl ?_
          refine h_iinc (1 : Int32) dX1_trioWith_195 rfl k_iinc_1 (by decide) rfl ?_
          refine h_goto (tgt := 71) dX1_trioWith_198 (by decide) ?_
          exact h_mask [true, true, false, false, false, true, true, true, true, true, true, false, false] (H71 _ _ _ _ _ _ _ h)
def f_X1_trioWith_71 (k53 : Int32 → Int32 → Int32 → Int32 → Int32 → Int32 → Option (Int32)) (I : Mem) (P : PMem) (z0 : Nat) : Nat → Int32 → Int32 → Int32 → Int32 → Int32 → Int32 → Int32 → Option (Int32)
  | 0, _, _, _, _, _, _, _ => none
  | fu + 1, v1, v5, v6, v7, v8, v9, v10 =>
    gd (decide ((P 1 z0 0 0) < 2)) <|
    if (I 3 (P 1 z0 0 0) 0 7) ≤ v10 then (k53 v1 v5 v6 v7 v8 (v9 + (1 : Int32))) else (bnd (((jshl (1 : Int32) v8) ||| (jshl (1 : Int32) v9)) ||| (jshl (1 : Int32) v10)) fun x1 =>
    (f_X1_latestDay I z0 v1 v8 v9 v10).bind fun y1 =>
    if (x1 &&& (v5 ^^^ (-1 : Int32))) = 0 then (if v6 = 0 then (f_X1_trioWith_134 (f_X1_trioWith_71 k53 I P z0 fu) I P z0 v1 v5 v6 v7 v8 v9 v10 x1 y1) else (if v7 ≤ y1 then ((f_X1_trioWith_71 k53 I P z0 fu) v1 v5 v6 v7 v8 v9 (v10 + (1 : Int32))) else (f_X1_trioWith_134 (f_X1_trioWith_71 k53 I P z0 fu) I P z0 v1 v5 v6 v7 v8 v9 v10 x1 y1))) else ((f_X1_trioWith_71 k53 I P z0 fu) v1 v5 v6 v7 v8 v9 (v10 + (1 : Int32))))
theorem b_X1_trioWith_71 (X : CX) (Q : State → Prop) {I : Mem} {P : PMem} {O : Nat → Int64} {D : Bool} {n : Nat} {k53 : Int32 → Int32 → Int32 → Int32 → Int32 → Int32 → Option (Int32)} {z0 : Nat} {r : (Int32)}  (H53 : ∀ (v1 : Int32) (v5 : Int32) (v6 : Int32) (v7 : Int32) (v8 : Int32) (v9 : Int32), k53 v1 v5 v6 v7 v8 v9 = some r → Here X cX1_trioWith RX1 13 (some .int) 3 n 53 [some (.inr (.inr (1, z0, 0))), some (.inl v1), none, none, none, some (.inl v5), some (.inl v6), some (.inl v7), some (.inl v8), some (.inl v9), none, none, none] [] I P O D n Q) (hz0 : z0 < 2) : ∀ (fu : Nat) {v1 : Int32} {v5 : Int32} {v6 : Int32} {v7 : Int32} {v8 : Int32} {v9 : Int32} {v10 : Int32}, f_X1_trioWith_71 k53 I P z0 fu v1 v5 v6 v7 v8 v9 v10 = some r → EndR X cX1_trioWith RX1 13 (some .int) 3 n (some (.inl r)) I P O D Q → Here X cX1_trioWith RX1 13 (some .int) 3 n 71 [some (.inr (.inr (1, z0, 0))), some (.inl v1), none, none, none, some (.inl v5), some (.inl v6), some (.inl v7), some (.inl v8), some (.inl v9), some (.inl v10), none, none] [] I P O D n Q := by
  intro fu
  induction fu with
  | zero => intro v1 v5 v6 v7 v8 v9 v10 h E; cases h
  | succ fu ih =>
  intro v1 v5 v6 v7 v8 v9 v10 h E
  have H71 : ∀ (v1 : Int32) (v5 : Int32) (v6 : Int32) (v7 : Int32) (v8 : Int32) (v9 : Int32) (v10 : Int32), f_X1_trioWith_71 k53 I P z0 fu v1 v5 v6 v7 v8 v9 v10 = some r → Here X cX1_trioWith RX1 13 (some .int) 3 n 71 [some (.inr (.inr (1, z0, 0))), some (.inl v1), none, none, none, some (.inl v5), some (.inl v6), some (.inl v7), some (.inl v8), some (.inl v9), some (.inl v10), none, none] [] I P O D n Q := fun _ _ _ _ _ _ _ b => ih b E
  simp only [f_X1_trioWith_71] at h
  refine h_iload dX1_trioWith_71 rfl ?_
  refine h_aload_n dX1_trioWith_73 rfl ?_
  refine g_X1_44 (by omega) dX1_trioWith_74 ?_
  obtain ⟨g1, h⟩ := gd_some h
  have w1 := of_decide_eq_true g1
  refine g_X1_56 (by omega) dX1_trioWith_77 ?_
  refine h_icmp_ge (tgt := 201) dX1_trioWith_80 (by decide) (fun q1 => ?_) (fun q1 => ?_)
  · rw [if_pos q1] at h
    refine h_iinc (1 : Int32) dX1_trioWith_201 rfl k_iinc_1 (by decide) rfl ?_
    refine h_goto (tgt := 53) dX1_trioWith_204 (by decide) ?_
    exact h_mask [true, true, false, false, false, true, true, true, true, true, false, false, false] (H53 _ _ _ _ _ _ h)
  · rw [if_neg q1] at h
    refine h_iconst (1 : Int32) dX1_trioWith_83 k_iconst_1 ?_
    refine h_iload dX1_trioWith_84 rfl ?_
    refine h_shl dX1_trioWith_86 ?_
    refine h_iconst (1 : Int32) dX1_trioWith_87 k_iconst_1 ?_
    refine h_iload dX1_trioWith_88 rfl ?_
    refine h_shl dX1_trioWith_90 ?_
    refine h_ior dX1_trioWith_91 ?_
    refine h_iconst (1 : Int32) dX1_trioWith_92 k_iconst_1 ?_
    refine h_iload dX1_trioWith_93 rfl ?_
    refine h_shl dX1_trioWith_95 ?_
    refine h_ior dX1_trioWith_96 ?_
    obtain ⟨x1, e1, h⟩ := bnd_some h
    refine h_nmv e1 ?_
    refine h_istore dX1_trioWith_97 (by decide) rfl ?_
    refine h_aload_n dX1_trioWith_99 rfl ?_
    refine h_iload_n dX1_trioWith_100 rfl ?_
    refine h_iload dX1_trioWith_101 rfl ?_
    refine h_iload dX1_trioWith_103 rfl ?_
    refine h_iload dX1_trioWith_105 rfl ?_
    obtain ⟨y1, hh1, h⟩ := obd_some h
    refine h_cVi [.inl v1, .inl v8, .inl v9, .inl v10] (m_X1_latestDay (by omega) hh1) cw_X1_207 dX1_trioWith_107 rfl (ok_1 (by omega)) (by decide) rfl (Or.inr rfl) rfl ?_
    refine h_istore dX1_trioWith_110 (by decide) rfl ?_
    refine h_iload dX1_trioWith_112 rfl ?_
    refine h_iload dX1_trioWith_114 rfl ?_
    refine h_iconst (-1 : Int32) dX1_trioWith_116 k_iconst_m1 ?_
    refine h_ixor dX1_trioWith_117 ?_
    refine h_iand dX1_trioWith_118 ?_
    refine h_if_ne (tgt := 195) dX1_trioWith_119 (by decide) (fun q2 => ?_) (fun q2 => ?_)
    · rw [if_neg q2] at h
      refine h_iinc (1 : Int32) dX1_trioWith_195 rfl k_iinc_1 (by decide) rfl ?_
      refine h_goto (tgt := 71) dX1_trioWith_198 (by decide) ?_
      exact h_mask [true, true, false, false, false, true, true, true, true, true, true, false, false] (H71 _ _ _ _ _ _ _ h)
    · rw [if_pos q2] at h
      refine h_iload dX1_trioWith_122 rfl ?_
      refine h_if_eq (tgt := 134) dX1_trioWith_124 (by decide) (fun q3 => ?_) (fun q3 => ?_)
      · rw [if_pos q3] at h
        exact (b_X1_trioWith_134 X Q H71 hz0  h E)
      · rw [if_neg q3] at h
        refine h_iload dX1_trioWith_127 rfl ?_
        refine h_iload dX1_trioWith_129 rfl ?_
        refine h_icmp_ge (tgt := 195) dX1_trioWith_131 (by decide) (fun q4 => ?_) (fun q4 => ?_)
        · rw [if_pos q4] at h
          refine h_iinc (1 : Int32) dX1_trioWith_195 rfl k_iinc_1 (by decide) rfl ?_
          refine h_goto (tgt := 71) dX1_trioWith_198 (by decide) ?_
          exact h_mask [true, true, false, false, false, true, true, true, true, true, true, false, false] (H71 _ _ _ _ _ _ _ h)
        · rw [if_neg q4] at h
          exact (b_X1_trioWith_134 X Q H71 hz0  h E)
def f_X1_trioWith_53 (k35 : Int32 → Int32 → Int32 → Int32 → Int32 → Option (Int32)) (I : Mem) (P : PMem) (z0 : Nat) : Nat → Int32 → Int32 → Int32 → Int32 → Int32 → Int32 → Option (Int32)
  | 0, _, _, _, _, _, _ => none
  | fu + 1, v1, v5, v6, v7, v8, v9 =>
    gd (decide ((P 1 z0 0 0) < 2)) <|
    if (I 3 (P 1 z0 0 0) 0 7) ≤ v9 then (k35 v1 v5 v6 v7 (v8 + (1 : Int32))) else (bnd (v9 + (1 : Int32)) fun x1 =>
    f_X1_trioWith_71 (f_X1_trioWith_53 k35 I P z0 fu) I P z0 FU v1 v5 v6 v7 v8 v9 x1)
theorem b_X1_trioWith_53 (X : CX) (Q : State → Prop) {I : Mem} {P : PMem} {O : Nat → Int64} {D : Bool} {n : Nat} {k35 : Int32 → Int32 → Int32 → Int32 → Int32 → Option (Int32)} {z0 : Nat} {r : (Int32)}  (H35 : ∀ (v1 : Int32) (v5 : Int32) (v6 : Int32) (v7 : Int32) (v8 : Int32), k35 v1 v5 v6 v7 v8 = some r → Here X cX1_trioWith RX1 13 (some .int) 3 n 35 [some (.inr (.inr (1, z0, 0))), some (.inl v1), none, none, none, some (.inl v5), some (.inl v6), some (.inl v7), some (.inl v8), none, none, none, none] [] I P O D n Q) (hz0 : z0 < 2) : ∀ (fu : Nat) {v1 : Int32} {v5 : Int32} {v6 : Int32} {v7 : Int32} {v8 : Int32} {v9 : Int32}, f_X1_trioWith_53 k35 I P z0 fu v1 v5 v6 v7 v8 v9 = some r → EndR X cX1_trioWith RX1 13 (some .int) 3 n (some (.inl r)) I P O D Q → Here X cX1_trioWith RX1 13 (some .int) 3 n 53 [some (.inr (.inr (1, z0, 0))), some (.inl v1), none, none, none, some (.inl v5), some (.inl v6), some (.inl v7), some (.inl v8), some (.inl v9), none, none, none] [] I P O D n Q := by
  intro fu
  induction fu with
  | zero => intro v1 v5 v6 v7 v8 v9 h E; cases h
  | succ fu ih =>
  intro v1 v5 v6 v7 v8 v9 h E
  have H53 : ∀ (v1 : Int32) (v5 : Int32) (v6 : Int32) (v7 : Int32) (v8 : Int32) (v9 : Int32), f_X1_trioWith_53 k35 I P z0 fu v1 v5 v6 v7 v8 v9 = some r → Here X cX1_trioWith RX1 13 (some .int) 3 n 53 [some (.inr (.inr (1, z0, 0))), some (.inl v1), none, none, none, some (.inl v5), some (.inl v6), some (.inl v7), some (.inl v8), some (.inl v9), none, none, none] [] I P O D n Q := fun _ _ _ _ _ _ b => ih b E
  simp only [f_X1_trioWith_53] at h
  refine h_iload dX1_trioWith_53 rfl ?_
  refine h_aload_n dX1_trioWith_55 rfl ?_
  refine g_X1_44 (by omega) dX1_trioWith_56 ?_
  obtain ⟨g1, h⟩ := gd_some h
  have w1 := of_decide_eq_true g1
  refine g_X1_56 (by omega) dX1_trioWith_59 ?_
  refine h_icmp_ge (tgt := 207) dX1_trioWith_62 (by decide) (fun q1 => ?_) (fun q1 => ?_)
  · rw [if_pos q1] at h
    refine h_iinc (1 : Int32) dX1_trioWith_207 rfl k_iinc_1 (by decide) rfl ?_
    refine h_goto (tgt := 35) dX1_trioWith_210 (by decide) ?_
    exact h_mask [true, true, false, false, false, true, true, true, true, false, false, false, false] (H35 _ _ _ _ _ h)
  · rw [if_neg q1] at h
    refine h_iload dX1_trioWith_65 rfl ?_
    refine h_iconst (1 : Int32) dX1_trioWith_67 k_iconst_1 ?_
    refine h_iadd dX1_trioWith_68 ?_
    obtain ⟨x1, e1, h⟩ := bnd_some h
    refine h_nmv e1 ?_
    refine h_istore dX1_trioWith_69 (by decide) rfl ?_
    exact (b_X1_trioWith_71 X Q H53 hz0 FU  h E)
def f_X1_trioWith_35  (I : Mem) (P : PMem) (z0 : Nat) : Nat → Int32 → Int32 → Int32 → Int32 → Int32 → Option (Int32)
  | 0, _, _, _, _, _ => none
  | fu + 1, v1, v5, v6, v7, v8 =>
    gd (decide ((P 1 z0 0 0) < 2)) <|
    if (I 3 (P 1 z0 0 0) 0 7) ≤ v8 then (some v6) else (bnd (v8 + (1 : Int32)) fun x1 =>
    f_X1_trioWith_53 (f_X1_trioWith_35 I P z0 fu) I P z0 FU v1 v5 v6 v7 v8 x1)
theorem b_X1_trioWith_35 (X : CX) (Q : State → Prop) {I : Mem} {P : PMem} {O : Nat → Int64} {D : Bool} {n : Nat} {z0 : Nat} {r : (Int32)}  (hz0 : z0 < 2) : ∀ (fu : Nat) {v1 : Int32} {v5 : Int32} {v6 : Int32} {v7 : Int32} {v8 : Int32}, f_X1_trioWith_35 I P z0 fu v1 v5 v6 v7 v8 = some r → EndR X cX1_trioWith RX1 13 (some .int) 3 n (some (.inl r)) I P O D Q → Here X cX1_trioWith RX1 13 (some .int) 3 n 35 [some (.inr (.inr (1, z0, 0))), some (.inl v1), none, none, none, some (.inl v5), some (.inl v6), some (.inl v7), some (.inl v8), none, none, none, none] [] I P O D n Q := by
  intro fu
  induction fu with
  | zero => intro v1 v5 v6 v7 v8 h E; cases h
  | succ fu ih =>
  intro v1 v5 v6 v7 v8 h E
  have H35 : ∀ (v1 : Int32) (v5 : Int32) (v6 : Int32) (v7 : Int32) (v8 : Int32), f_X1_trioWith_35 I P z0 fu v1 v5 v6 v7 v8 = some r → Here X cX1_trioWith RX1 13 (some .int) 3 n 35 [some (.inr (.inr (1, z0, 0))), some (.inl v1), none, none, none, some (.inl v5), some (.inl v6), some (.inl v7), some (.inl v8), none, none, none, none] [] I P O D n Q := fun _ _ _ _ _ b => ih b E
  simp only [f_X1_trioWith_35] at h
  refine h_iload dX1_trioWith_35 rfl ?_
  refine h_aload_n dX1_trioWith_37 rfl ?_
  refine g_X1_44 (by omega) dX1_trioWith_38 ?_
  obtain ⟨g1, h⟩ := gd_some h
  have w1 := of_decide_eq_true g1
  refine g_X1_56 (by omega) dX1_trioWith_41 ?_
  refine h_icmp_ge (tgt := 213) dX1_trioWith_44 (by decide) (fun q1 => ?_) (fun q1 => ?_)
  · rw [if_pos q1] at h
    refine h_iload dX1_trioWith_213 rfl ?_
    cases h
    exact h_iret dX1_trioWith_215 rfl E
  · rw [if_neg q1] at h
    refine h_iload dX1_trioWith_47 rfl ?_
    refine h_iconst (1 : Int32) dX1_trioWith_49 k_iconst_1 ?_
    refine h_iadd dX1_trioWith_50 ?_
    obtain ⟨x1, e1, h⟩ := bnd_some h
    refine h_nmv e1 ?_
    refine h_istore dX1_trioWith_51 (by decide) rfl ?_
    exact (b_X1_trioWith_53 X Q H35 hz0 FU  h E)
def f_X1_trioWith  (I : Mem) (P : PMem) (z0 : Nat) (v1 : Int32) (v2 : Int32) (v3 : Int32) : Option (Int32) :=
  gd (inb v1 6) <|
  bnd (((I 21 z0 0 v1.toNatClampNeg) ||| v2) &&& (v3 ^^^ (-1 : Int32))) fun x1 =>
  (f_X1_whoSaidGuilty I P z0 v1).bind fun y1 =>
  bnd (y1 &&& (x1 ^^^ (-1 : Int32))) fun x2 =>
  f_X1_trioWith_35 I P z0 FU v1 x2 (0 : Int32) (-1 : Int32) (0 : Int32)
theorem b_X1_trioWith (X : CX) (Q : State → Prop) {I : Mem} {P : PMem} {O : Nat → Int64} {D : Bool} {n : Nat} {z0 : Nat} {v1 : Int32} {v2 : Int32} {v3 : Int32} {r : (Int32)}  (hz0 : z0 < 2) (h : f_X1_trioWith I P z0 v1 v2 v3 = some r) (E : EndR X cX1_trioWith RX1 13 (some .int) 3 n (some (.inl r)) I P O D Q) : Here X cX1_trioWith RX1 13 (some .int) 3 n 0 [some (.inr (.inr (1, z0, 0))), some (.inl v1), some (.inl v2), some (.inl v3), none, none, none, none, none, none, none, none, none] [] I P O D n Q := by
  unfold f_X1_trioWith at h
  refine h_aload_n dX1_trioWith_0 rfl ?_
  refine g_X1_28 (by omega) dX1_trioWith_1 ?_
  refine h_iload_n dX1_trioWith_4 rfl ?_
  obtain ⟨g1, h⟩ := gd_some h
  refine al_21 (by omega) v1.toNatClampNeg rfl dX1_trioWith_5 g1 ?_
  refine h_iload_n dX1_trioWith_6 rfl ?_
  refine h_ior dX1_trioWith_7 ?_
  refine h_iload_n dX1_trioWith_8 rfl ?_
  refine h_iconst (-1 : Int32) dX1_trioWith_9 k_iconst_m1 ?_
  refine h_ixor dX1_trioWith_10 ?_
  refine h_iand dX1_trioWith_11 ?_
  obtain ⟨x1, e1, h⟩ := bnd_some h
  refine h_nmv e1 ?_
  refine h_istore dX1_trioWith_12 (by decide) rfl ?_
  refine h_aload_n dX1_trioWith_14 rfl ?_
  refine h_iload_n dX1_trioWith_15 rfl ?_
  obtain ⟨y1, hh1, h⟩ := obd_some h
  refine h_cVi [.inl v1] (m_X1_whoSaidGuilty (by omega) hh1) cw_X1_204 dX1_trioWith_16 rfl (ok_1 (by omega)) (by decide) rfl (Or.inr rfl) rfl ?_
  refine h_iload dX1_trioWith_19 rfl ?_
  refine h_iconst (-1 : Int32) dX1_trioWith_21 k_iconst_m1 ?_
  refine h_ixor dX1_trioWith_22 ?_
  refine h_iand dX1_trioWith_23 ?_
  obtain ⟨x2, e2, h⟩ := bnd_some h
  refine h_nmv e2 ?_
  refine h_istore dX1_trioWith_24 (by decide) rfl ?_
  refine h_iconst (0 : Int32) dX1_trioWith_26 k_iconst_0 ?_
  refine h_istore dX1_trioWith_27 (by decide) rfl ?_
  refine h_iconst (-1 : Int32) dX1_trioWith_29 k_iconst_m1 ?_
  refine h_istore dX1_trioWith_30 (by decide) rfl ?_
  refine h_iconst (0 : Int32) dX1_trioWith_32 k_iconst_0 ?_
  refine h_istore dX1_trioWith_33 (by decide) rfl ?_
  exact h_mask [true, true, false, false, false, true, true, true, true, false, false, false, false] (b_X1_trioWith_35 X Q hz0 FU  h E)
theorem m_X1_trioWith {I : Mem} {P : PMem} {O : Nat → Int64} {D : Bool} {n : Nat} {z0 : Nat} {v1 : Int32} {v2 : Int32} {v3 : Int32} {r : (Int32)} (hz0 : z0 < 2) (h : f_X1_trioWith I P z0 v1 v2 v3 = some r) : MethR yX1_trioWith cX1_trioWith 13 (some .int) 3 [.inr (.inr (1, z0, 0)), .inl v1, .inl v2, .inl v3] I P O D n (some (.inl r)) I P O D n := meth_R (Nat.le_refl _) (by decide) rfl (Nat.le_of_ble_eq_true rfl) rfl (fun X Q E => b_X1_trioWith X Q hz0 h E)
def f_X1_decideAll_2  (P : PMem) (z0 : Nat) : Nat → Mem → Int32 → Option (Mem)
  | 0, _, _ => none
  | fu + 1, I, v1 =>
    gd (decide ((P 1 z0 0 0) < 2)) <|
    if (I 3 (P 1 z0 0 0) 0 13) ≤ v1 then (some I) else ((f_X1_trioWith I P z0 v1 (0 : Int32) (I 1 z0 0 2)).bind fun y1 =>
    gd (inb v1 6) <|
    bnd (upd4 I 24 z0 0 v1.toNatClampNeg y1) fun I1' =>
    (f_X1_decideAll_2 P z0 fu) I1' (v1 + (1 : Int32)))
theorem b_X1_decideAll_2 (X : CX) (Q : State → Prop) {P : PMem} {O : Nat → Int64} {D : Bool} {n : Nat} {z0 : Nat} {r : (Mem)}  (hz0 : z0 < 2) : ∀ (fu : Nat) {I : Mem} {v1 : Int32}, f_X1_decideAll_2 P z0 fu I v1 = some r → EndR X cX1_decideAll RX1 2 (none) 4 n none r P O D Q → Here X cX1_decideAll RX1 2 (none) 4 n 2 [some (.inr (.inr (1, z0, 0))), some (.inl v1)] [] I P O D n Q := by
  intro fu
  induction fu with
  | zero => intro I v1 h E; cases h
  | succ fu ih =>
  intro I v1 h E
  have H2 : ∀ (I : Mem) (v1 : Int32), f_X1_decideAll_2 P z0 fu I v1 = some r → Here X cX1_decideAll RX1 2 (none) 4 n 2 [some (.inr (.inr (1, z0, 0))), some (.inl v1)] [] I P O D n Q := fun _ _ b => ih b E
  simp only [f_X1_decideAll_2] at h
  refine h_iload_n dX1_decideAll_2 rfl ?_
  refine h_aload_n dX1_decideAll_3 rfl ?_
  refine g_X1_44 (by omega) dX1_decideAll_4 ?_
  obtain ⟨g1, h⟩ := gd_some h
  have w1 := of_decide_eq_true g1
  refine g_X1_95 (by omega) dX1_decideAll_7 ?_
  refine h_icmp_ge (tgt := 35) dX1_decideAll_10 (by decide) (fun q1 => ?_) (fun q1 => ?_)
  · rw [if_pos q1] at h
    cases h
    exact h_vret dX1_decideAll_35 rfl E
  · rw [if_neg q1] at h
    refine h_aload_n dX1_decideAll_13 rfl ?_
    refine g_X1_35 (by omega) dX1_decideAll_14 ?_
    refine h_iload_n dX1_decideAll_17 rfl ?_
    refine h_aload_n dX1_decideAll_18 rfl ?_
    refine h_iload_n dX1_decideAll_19 rfl ?_
    refine h_iconst (0 : Int32) dX1_decideAll_20 k_iconst_0 ?_
    refine h_aload_n dX1_decideAll_21 rfl ?_
    refine g_X1_52 (by omega) dX1_decideAll_22 ?_
    obtain ⟨y1, hh1, h⟩ := obd_some h
    refine h_cVi [.inl v1, .inl (0 : Int32), .inl (I 1 z0 0 2)] (m_X1_trioWith (by omega) hh1) cw_X1_201 dX1_decideAll_25 rfl (ok_1 (by omega)) (by decide) rfl (Or.inr rfl) rfl ?_
    obtain ⟨g2, h⟩ := gd_some h
    obtain ⟨I1', e1, h⟩ := bnd_some h
    refine as_24 (by omega) v1.toNatClampNeg rfl dX1_decideAll_28 g2 ?_
    refine h_nmI e1 ?_
    refine h_iinc (1 : Int32) dX1_decideAll_29 rfl k_iinc_1 (by decide) rfl ?_
    refine h_goto (tgt := 2) dX1_decideAll_32 (by decide) ?_
    exact (H2 _ _ h)
def f_X1_decideAll  (P : PMem) (z0 : Nat) (I : Mem) : Option (Mem) :=
  f_X1_decideAll_2 P z0 FU I (0 : Int32)
theorem b_X1_decideAll (X : CX) (Q : State → Prop) {I : Mem} {P : PMem} {O : Nat → Int64} {D : Bool} {n : Nat} {z0 : Nat} {r : (Mem)}  (hz0 : z0 < 2) (h : f_X1_decideAll P z0 I = some r) (E : EndR X cX1_decideAll RX1 2 (none) 4 n none r P O D Q) : Here X cX1_decideAll RX1 2 (none) 4 n 0 [some (.inr (.inr (1, z0, 0))), none] [] I P O D n Q := by
  unfold f_X1_decideAll at h
  refine h_iconst (0 : Int32) dX1_decideAll_0 k_iconst_0 ?_
  refine h_istore_n dX1_decideAll_1 (by decide) rfl ?_
  exact (b_X1_decideAll_2 X Q hz0 FU  h E)
theorem m_X1_decideAll {I : Mem} {P : PMem} {O : Nat → Int64} {D : Bool} {n : Nat} {z0 : Nat} {r : (Mem)} (hz0 : z0 < 2) (h : f_X1_decideAll P z0 I = some r) : MethR yX1_decideAll cX1_decideAll 2 (none) 4 [.inr (.inr (1, z0, 0))] I P O D n none r P O D n := meth_R (Nat.le_refl _) (by decide) rfl (Nat.le_of_ble_eq_true rfl) rfl (fun X Q E => b_X1_decideAll X Q hz0 h E)
def f_X1_settle  (P : PMem) (z0 : Nat) (I : Mem) : Option (Mem) :=
  (f_X1_hearAll P z0 I).bind fun y1 =>
  gd (decide ((P 1 z0 0 1) < 2)) <|
  (f_X1_meetAll P z0 y1 (y1 0 (P 1 z0 0 1) 0 1)).bind fun y2 =>
  (f_X1_decideAll P z0 y2).bind fun y3 =>
  some y3
theorem b_X1_settle (X : CX) (Q : State → Prop) {I : Mem} {P : PMem} {O : Nat → Int64} {D : Bool} {n : Nat} {z0 : Nat} {r : (Mem)}  (hz0 : z0 < 2) (h : f_X1_settle P z0 I = some r) (E : EndR X cX1_settle RX1 1 (none) 6 n none r P O D Q) : Here X cX1_settle RX1 1 (none) 6 n 0 [some (.inr (.inr (1, z0, 0)))] [] I P O D n Q := by
  unfold f_X1_settle at h
  refine h_aload_n dX1_settle_0 rfl ?_
  obtain ⟨y1, hh1, h⟩ := obd_some h
  refine h_cVv [] (m_X1_hearAll (by omega) hh1) cw_X1_82 dX1_settle_1 rfl (ok_1 (by omega)) (by decide) rfl (Or.inr rfl) rfl ?_
  refine h_aload_n dX1_settle_4 rfl ?_
  refine h_aload_n dX1_settle_5 rfl ?_
  refine g_X1_48 (by omega) dX1_settle_6 ?_
  obtain ⟨g1, h⟩ := gd_some h
  have w1 := of_decide_eq_true g1
  refine g_X1_85 (by omega) dX1_settle_9 ?_
  obtain ⟨y2, hh2, h⟩ := obd_some h
  refine h_cVv [.inl (y1 0 (P 1 z0 0 1) 0 1)] (m_X1_meetAll (by omega) hh2) cw_X1_88 dX1_settle_12 rfl (ok_1 (by omega)) (by decide) rfl (Or.inr rfl) rfl ?_
  refine h_aload_n dX1_settle_15 rfl ?_
  obtain ⟨y3, hh3, h⟩ := obd_some h
  refine h_cVv [] (m_X1_decideAll (by omega) hh3) cw_X1_92 dX1_settle_16 rfl (ok_1 (by omega)) (by decide) rfl (Or.inr rfl) rfl ?_
  cases h
  exact h_vret dX1_settle_19 rfl E
theorem m_X1_settle {I : Mem} {P : PMem} {O : Nat → Int64} {D : Bool} {n : Nat} {z0 : Nat} {r : (Mem)} (hz0 : z0 < 2) (h : f_X1_settle P z0 I = some r) : MethR yX1_settle cX1_settle 1 (none) 6 [.inr (.inr (1, z0, 0))] I P O D n none r P O D n := meth_R (Nat.le_refl _) (by decide) rfl (Nat.le_of_ble_eq_true rfl) rfl (fun X Q E => b_X1_settle X Q hz0 h E)
def f_X1_lastDay  (I : Mem) (P : PMem) (z0 : Nat) (v1 : Int32) : Option (Int32) :=
  gd (decide ((P 1 z0 0 0) < 2)) <|
  gd (inb v1 5) <|
  bnd (I 36 (P 1 z0 0 0) 0 v1.toNatClampNeg) fun x1 =>
  if x1 = 0 then (some (-1 : Int32)) else (gd (inb (x1 - (1 : Int32)) 7) <|
  some (I 14 z0 v1.toNatClampNeg ((x1 - (1 : Int32)).toNatClampNeg)))
theorem b_X1_lastDay (X : CX) (Q : State → Prop) {I : Mem} {P : PMem} {O : Nat → Int64} {D : Bool} {n : Nat} {z0 : Nat} {v1 : Int32} {r : (Int32)}  (hz0 : z0 < 2) (h : f_X1_lastDay I P z0 v1 = some r) (E : EndR X cX1_lastDay RX1 3 (some .int) 2 n (some (.inl r)) I P O D Q) : Here X cX1_lastDay RX1 3 (some .int) 2 n 0 [some (.inr (.inr (1, z0, 0))), some (.inl v1), none] [] I P O D n Q := by
  unfold f_X1_lastDay at h
  refine h_aload_n dX1_lastDay_0 rfl ?_
  refine g_X1_44 (by omega) dX1_lastDay_1 ?_
  obtain ⟨g1, h⟩ := gd_some h
  have w1 := of_decide_eq_true g1
  refine g_X1_73 (by omega) dX1_lastDay_4 ?_
  refine h_iload_n dX1_lastDay_7 rfl ?_
  obtain ⟨g2, h⟩ := gd_some h
  refine al_36 (by omega) v1.toNatClampNeg rfl dX1_lastDay_8 g2 ?_
  obtain ⟨x1, e1, h⟩ := bnd_some h
  refine h_nmv e1 ?_
  refine h_istore_n dX1_lastDay_9 (by decide) rfl ?_
  refine h_iload_n dX1_lastDay_10 rfl ?_
  refine h_if_ne (tgt := 18) dX1_lastDay_11 (by decide) (fun q1 => ?_) (fun q1 => ?_)
  · rw [if_neg q1] at h
    refine h_aload_n dX1_lastDay_18 rfl ?_
    refine g_X1_16 (by omega) dX1_lastDay_19 ?_
    refine h_iload_n dX1_lastDay_22 rfl ?_
    refine ag_13 (by omega) v1.toNatClampNeg rfl dX1_lastDay_23 g2 ?_
    have w2 := inb_lt g2
    refine h_iload_n dX1_lastDay_24 rfl ?_
    refine h_iconst (1 : Int32) dX1_lastDay_25 k_iconst_1 ?_
    refine h_isub dX1_lastDay_26 ?_
    obtain ⟨g3, h⟩ := gd_some h
    refine al_14 (by omega) (by omega) ((x1 - (1 : Int32)).toNatClampNeg) rfl dX1_lastDay_27 g3 ?_
    cases h
    exact h_iret dX1_lastDay_28 rfl E
  · rw [if_pos q1] at h
    refine h_iconst (-1 : Int32) dX1_lastDay_14 k_iconst_m1 ?_
    refine h_goto (tgt := 28) dX1_lastDay_15 (by decide) ?_
    cases h
    exact h_iret dX1_lastDay_28 rfl E
theorem m_X1_lastDay {I : Mem} {P : PMem} {O : Nat → Int64} {D : Bool} {n : Nat} {z0 : Nat} {v1 : Int32} {r : (Int32)} (hz0 : z0 < 2) (h : f_X1_lastDay I P z0 v1 = some r) : MethR yX1_lastDay cX1_lastDay 3 (some .int) 2 [.inr (.inr (1, z0, 0)), .inl v1] I P O D n (some (.inl r)) I P O D n := meth_R (Nat.le_refl _) (by decide) rfl (Nat.le_of_ble_eq_true rfl) rfl (fun X Q E => b_X1_lastDay X Q hz0 h E)
def f_X1_arrival  (I : Mem) (P : PMem) (z0 : Nat) (v1 : Int32) (v2 : Int32) (v3 : Int32) : Option (Int32) :=
  gd (decide ((P 1 z0 0 0) < 2)) <|
  gd (inb v1 9) <|
  gd (inb v3 9) <|
  bnd (I 32 (P 1 z0 0 0) v1.toNatClampNeg v3.toNatClampNeg) fun x1 =>
  if x1 = (-1 : Int32) then (some (-1 : Int32)) else (some (v2 + x1))
theorem b_X1_arrival (X : CX) (Q : State → Prop) {I : Mem} {P : PMem} {O : Nat → Int64} {D : Bool} {n : Nat} {z0 : Nat} {v1 : Int32} {v2 : Int32} {v3 : Int32} {r : (Int32)}  (hz0 : z0 < 2) (h : f_X1_arrival I P z0 v1 v2 v3 = some r) (E : EndR X cX1_arrival RX1 5 (some .int) 2 n (some (.inl r)) I P O D Q) : Here X cX1_arrival RX1 5 (some .int) 2 n 0 [some (.inr (.inr (1, z0, 0))), some (.inl v1), some (.inl v2), some (.inl v3), none] [] I P O D n Q := by
  unfold f_X1_arrival at h
  refine h_aload_n dX1_arrival_0 rfl ?_
  refine g_X1_44 (by omega) dX1_arrival_1 ?_
  obtain ⟨g1, h⟩ := gd_some h
  have w1 := of_decide_eq_true g1
  refine g_X1_169 (by omega) dX1_arrival_4 ?_
  refine h_iload_n dX1_arrival_7 rfl ?_
  obtain ⟨g2, h⟩ := gd_some h
  refine ag_31 (by omega) v1.toNatClampNeg rfl dX1_arrival_8 g2 ?_
  have w2 := inb_lt g2
  refine h_iload_n dX1_arrival_9 rfl ?_
  obtain ⟨g3, h⟩ := gd_some h
  refine al_32 (by omega) (by omega) v3.toNatClampNeg rfl dX1_arrival_10 g3 ?_
  obtain ⟨x1, e1, h⟩ := bnd_some h
  refine h_nmv e1 ?_
  refine h_istore dX1_arrival_11 (by decide) rfl ?_
  refine h_iload dX1_arrival_13 rfl ?_
  refine h_iconst (-1 : Int32) dX1_arrival_15 k_iconst_m1 ?_
  refine h_icmp_ne (tgt := 23) dX1_arrival_16 (by decide) (fun q1 => ?_) (fun q1 => ?_)
  · rw [if_neg q1] at h
    refine h_iload_n dX1_arrival_23 rfl ?_
    refine h_iload dX1_arrival_24 rfl ?_
    refine h_iadd dX1_arrival_26 ?_
    cases h
    exact h_iret dX1_arrival_27 rfl E
  · rw [if_pos q1] at h
    refine h_iconst (-1 : Int32) dX1_arrival_19 k_iconst_m1 ?_
    refine h_goto (tgt := 27) dX1_arrival_20 (by decide) ?_
    cases h
    exact h_iret dX1_arrival_27 rfl E
theorem m_X1_arrival {I : Mem} {P : PMem} {O : Nat → Int64} {D : Bool} {n : Nat} {z0 : Nat} {v1 : Int32} {v2 : Int32} {v3 : Int32} {r : (Int32)} (hz0 : z0 < 2) (h : f_X1_arrival I P z0 v1 v2 v3 = some r) : MethR yX1_arrival cX1_arrival 5 (some .int) 2 [.inr (.inr (1, z0, 0)), .inl v1, .inl v2, .inl v3] I P O D n (some (.inl r)) I P O D n := meth_R (Nat.le_refl _) (by decide) rfl (Nat.le_of_ble_eq_true rfl) rfl (fun X Q E => b_X1_arrival X Q hz0 h E)
