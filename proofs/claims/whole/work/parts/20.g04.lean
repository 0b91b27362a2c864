theorem dX3_measureWays_0 : decode cX3_measureWays 0 = .ok (.iconst 0, 1) := by decide +kernel
theorem dX3_measureWays_1 : decode cX3_measureWays 1 = .ok (.istore_n 1, 1) := by decide +kernel
theorem dX3_measureWays_2 : decode cX3_measureWays 2 = .ok (.iload_n 1, 1) := by decide +kernel
theorem dX3_measureWays_3 : decode cX3_measureWays 3 = .ok (.aload_n 0, 1) := by decide +kernel
theorem dX3_measureWays_4 : decode cX3_measureWays 4 = .ok (.getfield 48, 3) := by decide +kernel
theorem dX3_measureWays_7 : decode cX3_measureWays 7 = .ok (.if_icmp .ge 63, 3) := by decide +kernel
theorem dX3_measureWays_10 : decode cX3_measureWays 10 = .ok (.iconst 0, 1) := by decide +kernel
theorem dX3_measureWays_11 : decode cX3_measureWays 11 = .ok (.istore_n 2, 1) := by decide +kernel
theorem dX3_measureWays_12 : decode cX3_measureWays 12 = .ok (.iload_n 2, 1) := by decide +kernel
theorem dX3_measureWays_13 : decode cX3_measureWays 13 = .ok (.aload_n 0, 1) := by decide +kernel
theorem dX3_measureWays_14 : decode cX3_measureWays 14 = .ok (.getfield 48, 3) := by decide +kernel
theorem dX3_measureWays_17 : decode cX3_measureWays 17 = .ok (.if_icmp .ge 47, 3) := by decide +kernel
theorem dX3_measureWays_20 : decode cX3_measureWays 20 = .ok (.aload_n 0, 1) := by decide +kernel
theorem dX3_measureWays_21 : decode cX3_measureWays 21 = .ok (.getfield 16, 3) := by decide +kernel
theorem dX3_measureWays_24 : decode cX3_measureWays 24 = .ok (.iload_n 1, 1) := by decide +kernel
theorem dX3_measureWays_25 : decode cX3_measureWays 25 = .ok (.aaload, 1) := by decide +kernel
theorem dX3_measureWays_26 : decode cX3_measureWays 26 = .ok (.iload_n 2, 1) := by decide +kernel
theorem dX3_measureWays_27 : decode cX3_measureWays 27 = .ok (.iload_n 1, 1) := by decide +kernel
theorem dX3_measureWays_28 : decode cX3_measureWays 28 = .ok (.iload_n 2, 1) := by decide +kernel
theorem dX3_measureWays_29 : decode cX3_measureWays 29 = .ok (.if_icmp .ne 7, 3) := by decide +kernel
theorem dX3_measureWays_32 : decode cX3_measureWays 32 = .ok (.iconst 0, 1) := by decide +kernel
theorem dX3_measureWays_33 : decode cX3_measureWays 33 = .ok (.goto 24, 3) := by decide +kernel
theorem dX3_measureWays_36 : decode cX3_measureWays 36 = .ok (.aload_n 0, 1) := by decide +kernel
theorem dX3_measureWays_37 : decode cX3_measureWays 37 = .ok (.iload_n 1, 1) := by decide +kernel
theorem dX3_measureWays_38 : decode cX3_measureWays 38 = .ok (.iload_n 2, 1) := by decide +kernel
theorem dX3_measureWays_39 : decode cX3_measureWays 39 = .ok (.invokevirtual 76, 3) := by decide +kernel
theorem dX3_measureWays_42 : decode cX3_measureWays 42 = .ok (.ifCond .eq 14, 3) := by decide +kernel
theorem dX3_measureWays_45 : decode cX3_measureWays 45 = .ok (.aload_n 0, 1) := by decide +kernel
theorem dX3_measureWays_46 : decode cX3_measureWays 46 = .ok (.getfield 11, 3) := by decide +kernel
theorem dX3_measureWays_49 : decode cX3_measureWays 49 = .ok (.iload_n 1, 1) := by decide +kernel
theorem dX3_measureWays_50 : decode cX3_measureWays 50 = .ok (.aaload, 1) := by decide +kernel
theorem dX3_measureWays_51 : decode cX3_measureWays 51 = .ok (.iload_n 2, 1) := by decide +kernel
theorem dX3_measureWays_52 : decode cX3_measureWays 52 = .ok (.iaload, 1) := by decide +kernel
theorem dX3_measureWays_53 : decode cX3_measureWays 53 = .ok (.goto 4, 3) := by decide +kernel
theorem dX3_measureWays_56 : decode cX3_measureWays 56 = .ok (.iconst (-1), 1) := by decide +kernel
theorem dX3_measureWays_57 : decode cX3_measureWays 57 = .ok (.iastore, 1) := by decide +kernel
theorem dX3_measureWays_58 : decode cX3_measureWays 58 = .ok (.iinc 2 1, 3) := by decide +kernel
theorem dX3_measureWays_61 : decode cX3_measureWays 61 = .ok (.goto (-49), 3) := by decide +kernel
theorem dX3_measureWays_64 : decode cX3_measureWays 64 = .ok (.iinc 1 1, 3) := by decide +kernel
theorem dX3_measureWays_67 : decode cX3_measureWays 67 = .ok (.goto (-65), 3) := by decide +kernel
theorem dX3_measureWays_70 : decode cX3_measureWays 70 = .ok (.iconst 0, 1) := by decide +kernel
theorem dX3_measureWays_71 : decode cX3_measureWays 71 = .ok (.istore_n 1, 1) := by decide +kernel
theorem dX3_measureWays_72 : decode cX3_measureWays 72 = .ok (.iload_n 1, 1) := by decide +kernel
theorem dX3_measureWays_73 : decode cX3_measureWays 73 = .ok (.aload_n 0, 1) := by decide +kernel
theorem dX3_measureWays_74 : decode cX3_measureWays 74 = .ok (.getfield 48, 3) := by decide +kernel
theorem dX3_measureWays_77 : decode cX3_measureWays 77 = .ok (.if_icmp .ge 31, 3) := by decide +kernel
theorem dX3_measureWays_80 : decode cX3_measureWays 80 = .ok (.iconst 0, 1) := by decide +kernel
theorem dX3_measureWays_81 : decode cX3_measureWays 81 = .ok (.istore_n 2, 1) := by decide +kernel
theorem dX3_measureWays_82 : decode cX3_measureWays 82 = .ok (.iload_n 2, 1) := by decide +kernel
theorem dX3_measureWays_83 : decode cX3_measureWays 83 = .ok (.aload_n 0, 1) := by decide +kernel
theorem dX3_measureWays_84 : decode cX3_measureWays 84 = .ok (.getfield 48, 3) := by decide +kernel
theorem dX3_measureWays_87 : decode cX3_measureWays 87 = .ok (.if_icmp .ge 15, 3) := by decide +kernel
theorem dX3_measureWays_90 : decode cX3_measureWays 90 = .ok (.aload_n 0, 1) := by decide +kernel
theorem dX3_measureWays_91 : decode cX3_measureWays 91 = .ok (.iload_n 1, 1) := by decide +kernel
theorem dX3_measureWays_92 : decode cX3_measureWays 92 = .ok (.iload_n 2, 1) := by decide +kernel
theorem dX3_measureWays_93 : decode cX3_measureWays 93 = .ok (.invokevirtual 80, 3) := by decide +kernel
theorem dX3_measureWays_96 : decode cX3_measureWays 96 = .ok (.iinc 2 1, 3) := by decide +kernel
theorem dX3_measureWays_99 : decode cX3_measureWays 99 = .ok (.goto (-17), 3) := by decide +kernel
theorem dX3_measureWays_102 : decode cX3_measureWays 102 = .ok (.iinc 1 1, 3) := by decide +kernel
theorem dX3_measureWays_105 : decode cX3_measureWays 105 = .ok (.goto (-33), 3) := by decide +kernel
theorem dX3_measureWays_108 : decode cX3_measureWays 108 = .ok (.iconst 0, 1) := by decide +kernel
theorem dX3_measureWays_109 : decode cX3_measureWays 109 = .ok (.istore_n 1, 1) := by decide +kernel
theorem dX3_measureWays_110 : decode cX3_measureWays 110 = .ok (.iload_n 1, 1) := by decide +kernel
theorem dX3_measureWays_111 : decode cX3_measureWays 111 = .ok (.aload_n 0, 1) := by decide +kernel
theorem dX3_measureWays_112 : decode cX3_measureWays 112 = .ok (.getfield 48, 3) := by decide +kernel
theorem dX3_measureWays_115 : decode cX3_measureWays 115 = .ok (.if_icmp .ge 63, 3) := by decide +kernel
theorem dX3_measureWays_118 : decode cX3_measureWays 118 = .ok (.iconst 0, 1) := by decide +kernel
theorem dX3_measureWays_119 : decode cX3_measureWays 119 = .ok (.istore_n 2, 1) := by decide +kernel
theorem dX3_measureWays_120 : decode cX3_measureWays 120 = .ok (.iload_n 2, 1) := by decide +kernel
theorem dX3_measureWays_121 : decode cX3_measureWays 121 = .ok (.aload_n 0, 1) := by decide +kernel
theorem dX3_measureWays_122 : decode cX3_measureWays 122 = .ok (.getfield 48, 3) := by decide +kernel
theorem dX3_measureWays_125 : decode cX3_measureWays 125 = .ok (.if_icmp .ge 47, 3) := by decide +kernel
theorem dX3_measureWays_128 : decode cX3_measureWays 128 = .ok (.aload_n 0, 1) := by decide +kernel
theorem dX3_measureWays_129 : decode cX3_measureWays 129 = .ok (.getfield 16, 3) := by decide +kernel
theorem dX3_measureWays_132 : decode cX3_measureWays 132 = .ok (.iload_n 1, 1) := by decide +kernel
theorem dX3_measureWays_133 : decode cX3_measureWays 133 = .ok (.aaload, 1) := by decide +kernel
theorem dX3_measureWays_134 : decode cX3_measureWays 134 = .ok (.iload_n 2, 1) := by decide +kernel
theorem dX3_measureWays_135 : decode cX3_measureWays 135 = .ok (.iaload, 1) := by decide +kernel
theorem dX3_measureWays_136 : decode cX3_measureWays 136 = .ok (.istore_n 3, 1) := by decide +kernel
theorem dX3_measureWays_137 : decode cX3_measureWays 137 = .ok (.aload_n 0, 1) := by decide +kernel
theorem dX3_measureWays_138 : decode cX3_measureWays 138 = .ok (.getfield 19, 3) := by decide +kernel
theorem dX3_measureWays_141 : decode cX3_measureWays 141 = .ok (.iload_n 1, 1) := by decide +kernel
theorem dX3_measureWays_142 : decode cX3_measureWays 142 = .ok (.aaload, 1) := by decide +kernel
theorem dX3_measureWays_143 : decode cX3_measureWays 143 = .ok (.iload_n 2, 1) := by decide +kernel
theorem dX3_measureWays_144 : decode cX3_measureWays 144 = .ok (.iload_n 3, 1) := by decide +kernel
theorem dX3_measureWays_145 : decode cX3_measureWays 145 = .ok (.iconst (-1), 1) := by decide +kernel
theorem dX3_measureWays_146 : decode cX3_measureWays 146 = .ok (.if_icmp .ne 7, 3) := by decide +kernel
theorem dX3_measureWays_149 : decode cX3_measureWays 149 = .ok (.iconst (-1), 1) := by decide +kernel
theorem dX3_measureWays_150 : decode cX3_measureWays 150 = .ok (.goto 15, 3) := by decide +kernel
theorem dX3_measureWays_153 : decode cX3_measureWays 153 = .ok (.iload_n 3, 1) := by decide +kernel
theorem dX3_measureWays_154 : decode cX3_measureWays 154 = .ok (.aload_n 0, 1) := by decide +kernel
theorem dX3_measureWays_155 : decode cX3_measureWays 155 = .ok (.invokevirtual 84, 3) := by decide +kernel
theorem dX3_measureWays_158 : decode cX3_measureWays 158 = .ok (.imul, 1) := by decide +kernel
theorem dX3_measureWays_159 : decode cX3_measureWays 159 = .ok (.bipush 9, 2) := by decide +kernel
theorem dX3_measureWays_161 : decode cX3_measureWays 161 = .ok (.iadd, 1) := by decide +kernel
theorem dX3_measureWays_162 : decode cX3_measureWays 162 = .ok (.bipush 10, 2) := by decide +kernel
theorem dX3_measureWays_164 : decode cX3_measureWays 164 = .ok (.idiv, 1) := by decide +kernel
theorem dX3_measureWays_165 : decode cX3_measureWays 165 = .ok (.iastore, 1) := by decide +kernel
theorem dX3_measureWays_166 : decode cX3_measureWays 166 = .ok (.iinc 2 1, 3) := by decide +kernel
theorem dX3_measureWays_169 : decode cX3_measureWays 169 = .ok (.goto (-49), 3) := by decide +kernel
theorem dX3_measureWays_172 : decode cX3_measureWays 172 = .ok (.iinc 1 1, 3) := by decide +kernel
theorem dX3_measureWays_175 : decode cX3_measureWays 175 = .ok (.goto (-65), 3) := by decide +kernel
theorem dX3_measureWays_178 : decode cX3_measureWays 178 = .ok (.return_, 1) := by decide +kernel
theorem dX4_isTold_0 : decode cX4_isTold 0 = .ok (.aload_n 0, 1) := by decide +kernel
theorem dX4_isTold_1 : decode cX4_isTold 1 = .ok (.getfield 21, 3) := by decide +kernel
theorem dX4_isTold_4 : decode cX4_isTold 4 = .ok (.ifCond .le 7, 3) := by decide +kernel
theorem dX4_isTold_7 : decode cX4_isTold 7 = .ok (.iconst 1, 1) := by decide +kernel
theorem dX4_isTold_8 : decode cX4_isTold 8 = .ok (.goto 4, 3) := by decide +kernel
theorem dX4_isTold_11 : decode cX4_isTold 11 = .ok (.iconst 0, 1) := by decide +kernel
theorem dX4_isTold_12 : decode cX4_isTold 12 = .ok (.ireturn, 1) := by decide +kernel
theorem dX4_add_0 : decode cX4_add 0 = .ok (.aload_n 0, 1) := by decide +kernel
theorem dX4_add_1 : decode cX4_add 1 = .ok (.getfield 21, 3) := by decide +kernel
theorem dX4_add_4 : decode cX4_add 4 = .ok (.aload_n 0, 1) := by decide +kernel
theorem dX4_add_5 : decode cX4_add 5 = .ok (.getfield 9, 3) := by decide +kernel
theorem dX4_add_8 : decode cX4_add 8 = .ok (.arraylength, 1) := by decide +kernel
theorem dX4_add_9 : decode cX4_add 9 = .ok (.if_icmp .ge 23, 3) := by decide +kernel
theorem dX4_add_12 : decode cX4_add 12 = .ok (.aload_n 0, 1) := by decide +kernel
theorem dX4_add_13 : decode cX4_add 13 = .ok (.getfield 9, 3) := by decide +kernel
theorem dX4_add_16 : decode cX4_add 16 = .ok (.aload_n 0, 1) := by decide +kernel
theorem dX4_add_17 : decode cX4_add 17 = .ok (.getfield 21, 3) := by decide +kernel
theorem dX4_add_20 : decode cX4_add 20 = .ok (.iload_n 1, 1) := by decide +kernel
theorem dX4_add_21 : decode cX4_add 21 = .ok (.iastore, 1) := by decide +kernel
theorem dX4_add_22 : decode cX4_add 22 = .ok (.aload_n 0, 1) := by decide +kernel
theorem dX4_add_23 : decode cX4_add 23 = .ok (.dup, 1) := by decide +kernel
theorem dX4_add_24 : decode cX4_add 24 = .ok (.getfield 21, 3) := by decide +kernel
theorem dX4_add_27 : decode cX4_add 27 = .ok (.iconst 1, 1) := by decide +kernel
theorem dX4_add_28 : decode cX4_add 28 = .ok (.iadd, 1) := by decide +kernel
theorem dX4_add_29 : decode cX4_add 29 = .ok (.putfield 21, 3) := by decide +kernel
theorem dX4_add_32 : decode cX4_add 32 = .ok (.return_, 1) := by decide +kernel
theorem dX5_kindOf_0 : decode cX5_kindOf 0 = .ok (.iload_n 0, 1) := by decide +kernel
theorem dX5_kindOf_1 : decode cX5_kindOf 1 = .ok (.bipush 97, 2) := by decide +kernel
theorem dX5_kindOf_3 : decode cX5_kindOf 3 = .ok (.if_icmp .lt 11, 3) := by decide +kernel
theorem dX5_kindOf_6 : decode cX5_kindOf 6 = .ok (.iload_n 0, 1) := by decide +kernel
theorem dX5_kindOf_7 : decode cX5_kindOf 7 = .ok (.bipush 122, 2) := by decide +kernel
theorem dX5_kindOf_9 : decode cX5_kindOf 9 = .ok (.if_icmp .gt 5, 3) := by decide +kernel
theorem dX5_kindOf_12 : decode cX5_kindOf 12 = .ok (.iconst 1, 1) := by decide +kernel
theorem dX5_kindOf_13 : decode cX5_kindOf 13 = .ok (.ireturn, 1) := by decide +kernel
theorem dX5_kindOf_14 : decode cX5_kindOf 14 = .ok (.iload_n 0, 1) := by decide +kernel
theorem dX5_kindOf_15 : decode cX5_kindOf 15 = .ok (.bipush 48, 2) := by decide +kernel
theorem dX5_kindOf_17 : decode cX5_kindOf 17 = .ok (.if_icmp .lt 11, 3) := by decide +kernel
theorem dX5_kindOf_20 : decode cX5_kindOf 20 = .ok (.iload_n 0, 1) := by decide +kernel
theorem dX5_kindOf_21 : decode cX5_kindOf 21 = .ok (.bipush 57, 2) := by decide +kernel
theorem dX5_kindOf_23 : decode cX5_kindOf 23 = .ok (.if_icmp .gt 5, 3) := by decide +kernel
theorem dX5_kindOf_26 : decode cX5_kindOf 26 = .ok (.iconst 2, 1) := by decide +kernel
theorem dX5_kindOf_27 : decode cX5_kindOf 27 = .ok (.ireturn, 1) := by decide +kernel
theorem dX5_kindOf_28 : decode cX5_kindOf 28 = .ok (.iload_n 0, 1) := by decide +kernel
theorem dX5_kindOf_29 : decode cX5_kindOf 29 = .ok (.tableswitch 105 40 61 #[103, 103, 103, 103, 105, 103, 105, 103, 105, 105, 105, 105, 105, 105, 105, 105, 105, 105, 105, 103, 103, 103], 103) := by decide +kernel
theorem dX5_kindOf_132 : decode cX5_kindOf 132 = .ok (.iconst 3, 1) := by decide +kernel
theorem dX5_kindOf_133 : decode cX5_kindOf 133 = .ok (.ireturn, 1) := by decide +kernel
theorem dX5_kindOf_134 : decode cX5_kindOf 134 = .ok (.iconst 4, 1) := by decide +kernel
theorem dX5_kindOf_135 : decode cX5_kindOf 135 = .ok (.ireturn, 1) := by decide +kernel
theorem dX5_advance_0 : decode cX5_advance 0 = .ok (.aload_n 0, 1) := by decide +kernel
theorem dX5_advance_1 : decode cX5_advance 1 = .ok (.getfield 37, 3) := by decide +kernel
theorem dX5_advance_4 : decode cX5_advance 4 = .ok (.ifCond .eq 4, 3) := by decide +kernel
theorem dX5_advance_7 : decode cX5_advance 7 = .ok (.return_, 1) := by decide +kernel
theorem dX5_advance_8 : decode cX5_advance 8 = .ok (.aload_n 0, 1) := by decide +kernel
theorem dX5_advance_9 : decode cX5_advance 9 = .ok (.aload_n 0, 1) := by decide +kernel
theorem dX5_advance_10 : decode cX5_advance 10 = .ok (.getfield 40, 3) := by decide +kernel
theorem dX5_advance_13 : decode cX5_advance 13 = .ok (.putfield 216, 3) := by decide +kernel
theorem dX5_advance_16 : decode cX5_advance 16 = .ok (.aload_n 0, 1) := by decide +kernel
theorem dX5_advance_17 : decode cX5_advance 17 = .ok (.getfield 216, 3) := by decide +kernel
theorem dX5_advance_20 : decode cX5_advance 20 = .ok (.aload_n 0, 1) := by decide +kernel
theorem dX5_advance_21 : decode cX5_advance 21 = .ok (.getfield 29, 3) := by decide +kernel
theorem dX5_advance_24 : decode cX5_advance 24 = .ok (.if_icmp .ge 44, 3) := by decide +kernel
theorem dX5_advance_27 : decode cX5_advance 27 = .ok (.aload_n 0, 1) := by decide +kernel
theorem dX5_advance_28 : decode cX5_advance 28 = .ok (.getfield 15, 3) := by decide +kernel
theorem dX5_advance_31 : decode cX5_advance 31 = .ok (.aload_n 0, 1) := by decide +kernel
theorem dX5_advance_32 : decode cX5_advance 32 = .ok (.getfield 216, 3) := by decide +kernel
theorem dX5_advance_35 : decode cX5_advance 35 = .ok (.baload, 1) := by decide +kernel
theorem dX5_advance_36 : decode cX5_advance 36 = .ok (.bipush 32, 2) := by decide +kernel
theorem dX5_advance_38 : decode cX5_advance 38 = .ok (.if_icmp .eq 17, 3) := by decide +kernel
theorem dX5_advance_41 : decode cX5_advance 41 = .ok (.aload_n 0, 1) := by decide +kernel
theorem dX5_advance_42 : decode cX5_advance 42 = .ok (.getfield 15, 3) := by decide +kernel
theorem dX5_advance_45 : decode cX5_advance 45 = .ok (.aload_n 0, 1) := by decide +kernel
theorem dX5_advance_46 : decode cX5_advance 46 = .ok (.getfield 216, 3) := by decide +kernel
theorem dX5_advance_49 : decode cX5_advance 49 = .ok (.baload, 1) := by decide +kernel
theorem dX5_advance_50 : decode cX5_advance 50 = .ok (.bipush 10, 2) := by decide +kernel
theorem dX5_advance_52 : decode cX5_advance 52 = .ok (.if_icmp .ne 16, 3) := by decide +kernel
theorem dX5_advance_55 : decode cX5_advance 55 = .ok (.aload_n 0, 1) := by decide +kernel
theorem dX5_advance_56 : decode cX5_advance 56 = .ok (.dup, 1) := by decide +kernel
theorem dX5_advance_57 : decode cX5_advance 57 = .ok (.getfield 216, 3) := by decide +kernel
theorem dX5_advance_60 : decode cX5_advance 60 = .ok (.iconst 1, 1) := by decide +kernel
theorem dX5_advance_61 : decode cX5_advance 61 = .ok (.iadd, 1) := by decide +kernel
theorem dX5_advance_62 : decode cX5_advance 62 = .ok (.putfield 216, 3) := by decide +kernel
theorem dX5_advance_65 : decode cX5_advance 65 = .ok (.goto (-49), 3) := by decide +kernel
theorem dX5_advance_68 : decode cX5_advance 68 = .ok (.aload_n 0, 1) := by decide +kernel
theorem dX5_advance_69 : decode cX5_advance 69 = .ok (.aload_n 0, 1) := by decide +kernel
theorem dX5_advance_70 : decode cX5_advance 70 = .ok (.getfield 216, 3) := by decide +kernel
theorem dX5_advance_73 : decode cX5_advance 73 = .ok (.aload_n 0, 1) := by decide +kernel
theorem dX5_advance_74 : decode cX5_advance 74 = .ok (.getfield 29, 3) := by decide +kernel
theorem dX5_advance_77 : decode cX5_advance 77 = .ok (.if_icmp .ge 18, 3) := by decide +kernel
theorem dX5_advance_80 : decode cX5_advance 80 = .ok (.aload_n 0, 1) := by decide +kernel
theorem dX5_advance_81 : decode cX5_advance 81 = .ok (.getfield 15, 3) := by decide +kernel
theorem dX5_advance_84 : decode cX5_advance 84 = .ok (.aload_n 0, 1) := by decide +kernel
theorem dX5_advance_85 : decode cX5_advance 85 = .ok (.getfield 216, 3) := by decide +kernel
theorem dX5_advance_88 : decode cX5_advance 88 = .ok (.baload, 1) := by decide +kernel
theorem dX5_advance_89 : decode cX5_advance 89 = .ok (.invokestatic 227, 3) := by decide +kernel
theorem dX5_advance_92 : decode cX5_advance 92 = .ok (.goto 4, 3) := by decide +kernel
theorem dX5_advance_95 : decode cX5_advance 95 = .ok (.iconst 0, 1) := by decide +kernel
theorem dX5_advance_96 : decode cX5_advance 96 = .ok (.putfield 46, 3) := by decide +kernel
theorem dX5_advance_99 : decode cX5_advance 99 = .ok (.aload_n 0, 1) := by decide +kernel
theorem dX5_advance_100 : decode cX5_advance 100 = .ok (.aload_n 0, 1) := by decide +kernel
theorem dX5_advance_101 : decode cX5_advance 101 = .ok (.getfield 216, 3) := by decide +kernel
theorem dX5_advance_104 : decode cX5_advance 104 = .ok (.iconst 1, 1) := by decide +kernel
theorem dX5_advance_105 : decode cX5_advance 105 = .ok (.iadd, 1) := by decide +kernel
theorem dX5_advance_106 : decode cX5_advance 106 = .ok (.aload_n 0, 1) := by decide +kernel
theorem dX5_advance_107 : decode cX5_advance 107 = .ok (.getfield 29, 3) := by decide +kernel
theorem dX5_advance_110 : decode cX5_advance 110 = .ok (.invokestatic 23, 3) := by decide +kernel
theorem dX5_advance_113 : decode cX5_advance 113 = .ok (.putfield 40, 3) := by decide +kernel
theorem dX5_advance_116 : decode cX5_advance 116 = .ok (.aload_n 0, 1) := by decide +kernel
theorem dX5_advance_117 : decode cX5_advance 117 = .ok (.getfield 40, 3) := by decide +kernel
theorem dX5_advance_120 : decode cX5_advance 120 = .ok (.aload_n 0, 1) := by decide +kernel
theorem dX5_advance_121 : decode cX5_advance 121 = .ok (.getfield 29, 3) := by decide +kernel
theorem dX5_advance_124 : decode cX5_advance 124 = .ok (.if_icmp .ge 51, 3) := by decide +kernel
theorem dX5_advance_127 : decode cX5_advance 127 = .ok (.aload_n 0, 1) := by decide +kernel
theorem dX5_advance_128 : decode cX5_advance 128 = .ok (.getfield 46, 3) := by decide +kernel
theorem dX5_advance_131 : decode cX5_advance 131 = .ok (.iconst 1, 1) := by decide +kernel
theorem dX5_advance_132 : decode cX5_advance 132 = .ok (.if_icmp .eq 11, 3) := by decide +kernel
theorem dX5_advance_135 : decode cX5_advance 135 = .ok (.aload_n 0, 1) := by decide +kernel
theorem dX5_advance_136 : decode cX5_advance 136 = .ok (.getfield 46, 3) := by decide +kernel
theorem dX5_advance_139 : decode cX5_advance 139 = .ok (.iconst 2, 1) := by decide +kernel
theorem dX5_advance_140 : decode cX5_advance 140 = .ok (.if_icmp .ne 35, 3) := by decide +kernel
theorem dX5_advance_143 : decode cX5_advance 143 = .ok (.aload_n 0, 1) := by decide +kernel
theorem dX5_advance_144 : decode cX5_advance 144 = .ok (.getfield 15, 3) := by decide +kernel
theorem dX5_advance_147 : decode cX5_advance 147 = .ok (.aload_n 0, 1) := by decide +kernel
theorem dX5_advance_148 : decode cX5_advance 148 = .ok (.getfield 40, 3) := by decide +kernel
theorem dX5_advance_151 : decode cX5_advance 151 = .ok (.baload, 1) := by decide +kernel
theorem dX5_advance_152 : decode cX5_advance 152 = .ok (.invokestatic 227, 3) := by decide +kernel
theorem dX5_advance_155 : decode cX5_advance 155 = .ok (.aload_n 0, 1) := by decide +kernel
theorem dX5_advance_156 : decode cX5_advance 156 = .ok (.getfield 46, 3) := by decide +kernel
theorem dX5_advance_159 : decode cX5_advance 159 = .ok (.if_icmp .ne 16, 3) := by decide +kernel
theorem dX5_advance_162 : decode cX5_advance 162 = .ok (.aload_n 0, 1) := by decide +kernel
theorem dX5_advance_163 : decode cX5_advance 163 = .ok (.dup, 1) := by decide +kernel
theorem dX5_advance_164 : decode cX5_advance 164 = .ok (.getfield 40, 3) := by decide +kernel
theorem dX5_advance_167 : decode cX5_advance 167 = .ok (.iconst 1, 1) := by decide +kernel
theorem dX5_advance_168 : decode cX5_advance 168 = .ok (.iadd, 1) := by decide +kernel
theorem dX5_advance_169 : decode cX5_advance 169 = .ok (.putfield 40, 3) := by decide +kernel
theorem dX5_advance_172 : decode cX5_advance 172 = .ok (.goto (-56), 3) := by decide +kernel
theorem dX5_advance_175 : decode cX5_advance 175 = .ok (.return_, 1) := by decide +kernel
theorem dX5_isWord_0 : decode cX5_isWord 0 = .ok (.aload_n 0, 1) := by decide +kernel
theorem dX5_isWord_1 : decode cX5_isWord 1 = .ok (.getfield 46, 3) := by decide +kernel
theorem dX5_isWord_4 : decode cX5_isWord 4 = .ok (.iconst 1, 1) := by decide +kernel
theorem dX5_isWord_5 : decode cX5_isWord 5 = .ok (.if_icmp .ne 19, 3) := by decide +kernel
theorem dX5_isWord_8 : decode cX5_isWord 8 = .ok (.aload_n 0, 1) := by decide +kernel
theorem dX5_isWord_9 : decode cX5_isWord 9 = .ok (.getfield 40, 3) := by decide +kernel
theorem dX5_isWord_12 : decode cX5_isWord 12 = .ok (.aload_n 0, 1) := by decide +kernel
theorem dX5_isWord_13 : decode cX5_isWord 13 = .ok (.getfield 216, 3) := by decide +kernel
theorem dX5_isWord_16 : decode cX5_isWord 16 = .ok (.isub, 1) := by decide +kernel
theorem dX5_isWord_17 : decode cX5_isWord 17 = .ok (.aload_n 1, 1) := by decide +kernel
theorem dX5_isWord_18 : decode cX5_isWord 18 = .ok (.invokevirtual 219, 3) := by decide +kernel
theorem dX5_isWord_21 : decode cX5_isWord 21 = .ok (.if_icmp .eq 5, 3) := by decide +kernel
theorem dX5_isWord_24 : decode cX5_isWord 24 = .ok (.iconst 0, 1) := by decide +kernel
theorem dX5_isWord_25 : decode cX5_isWord 25 = .ok (.ireturn, 1) := by decide +kernel
theorem dX5_isWord_26 : decode cX5_isWord 26 = .ok (.iconst 0, 1) := by decide +kernel
theorem dX5_isWord_27 : decode cX5_isWord 27 = .ok (.istore_n 2, 1) := by decide +kernel
theorem dX5_isWord_28 : decode cX5_isWord 28 = .ok (.iload_n 2, 1) := by decide +kernel
theorem dX5_isWord_29 : decode cX5_isWord 29 = .ok (.aload_n 1, 1) := by decide +kernel
theorem dX5_isWord_30 : decode cX5_isWord 30 = .ok (.invokevirtual 219, 3) := by decide +kernel
theorem dX5_isWord_33 : decode cX5_isWord 33 = .ok (.if_icmp .ge 30, 3) := by decide +kernel
theorem dX5_isWord_36 : decode cX5_isWord 36 = .ok (.aload_n 0, 1) := by decide +kernel
theorem dX5_isWord_37 : decode cX5_isWord 37 = .ok (.getfield 15, 3) := by decide +kernel
theorem dX5_isWord_40 : decode cX5_isWord 40 = .ok (.aload_n 0, 1) := by decide +kernel
theorem dX5_isWord_41 : decode cX5_isWord 41 = .ok (.getfield 216, 3) := by decide +kernel
theorem dX5_isWord_44 : decode cX5_isWord 44 = .ok (.iload_n 2, 1) := by decide +kernel
theorem dX5_isWord_45 : decode cX5_isWord 45 = .ok (.iadd, 1) := by decide +kernel
theorem dX5_isWord_46 : decode cX5_isWord 46 = .ok (.baload, 1) := by decide +kernel
theorem dX5_isWord_47 : decode cX5_isWord 47 = .ok (.aload_n 1, 1) := by decide +kernel
theorem dX5_isWord_48 : decode cX5_isWord 48 = .ok (.iload_n 2, 1) := by decide +kernel
theorem dX5_isWord_49 : decode cX5_isWord 49 = .ok (.invokevirtual 223, 3) := by decide +kernel
theorem dX5_isWord_52 : decode cX5_isWord 52 = .ok (.if_icmp .eq 5, 3) := by decide +kernel
theorem dX5_isWord_55 : decode cX5_isWord 55 = .ok (.iconst 0, 1) := by decide +kernel
theorem dX5_isWord_56 : decode cX5_isWord 56 = .ok (.ireturn, 1) := by decide +kernel
theorem dX5_isWord_57 : decode cX5_isWord 57 = .ok (.iinc 2 1, 3) := by decide +kernel
theorem dX5_isWord_60 : decode cX5_isWord 60 = .ok (.goto (-32), 3) := by decide +kernel
theorem dX5_isWord_63 : decode cX5_isWord 63 = .ok (.iconst 1, 1) := by decide +kernel
theorem dX5_isWord_64 : decode cX5_isWord 64 = .ok (.ireturn, 1) := by decide +kernel
theorem dX5_refuse_0 : decode cX5_refuse 0 = .ok (.aload_n 0, 1) := by decide +kernel
theorem dX5_refuse_1 : decode cX5_refuse 1 = .ok (.getfield 37, 3) := by decide +kernel
theorem dX5_refuse_4 : decode cX5_refuse 4 = .ok (.ifCond .ne 21, 3) := by decide +kernel
theorem dX5_refuse_7 : decode cX5_refuse 7 = .ok (.aload_n 0, 1) := by decide +kernel
theorem dX5_refuse_8 : decode cX5_refuse 8 = .ok (.iload_n 1, 1) := by decide +kernel
theorem dX5_refuse_9 : decode cX5_refuse 9 = .ok (.putfield 37, 3) := by decide +kernel
theorem dX5_refuse_12 : decode cX5_refuse 12 = .ok (.aload_n 0, 1) := by decide +kernel
theorem dX5_refuse_13 : decode cX5_refuse 13 = .ok (.aload_n 0, 1) := by decide +kernel
theorem dX5_refuse_14 : decode cX5_refuse 14 = .ok (.getfield 216, 3) := by decide +kernel
theorem dX5_refuse_17 : decode cX5_refuse 17 = .ok (.putfield 9, 3) := by decide +kernel
theorem dX5_refuse_20 : decode cX5_refuse 20 = .ok (.aload_n 0, 1) := by decide +kernel
theorem dX5_refuse_21 : decode cX5_refuse 21 = .ok (.iconst 4, 1) := by decide +kernel
theorem dX5_refuse_22 : decode cX5_refuse 22 = .ok (.putfield 46, 3) := by decide +kernel
theorem dX5_refuse_25 : decode cX5_refuse 25 = .ok (.return_, 1) := by decide +kernel
theorem dX5_readTown_0 : decode cX5_readTown 0 = .ok (.aload_n 0, 1) := by decide +kernel
theorem dX5_readTown_1 : decode cX5_readTown 1 = .ok (.getfield 19, 3) := by decide +kernel
theorem dX5_readTown_4 : decode cX5_readTown 4 = .ok (.getfield 101, 3) := by decide +kernel
theorem dX5_readTown_7 : decode cX5_readTown 7 = .ok (.bipush 9, 2) := by decide +kernel
theorem dX5_readTown_9 : decode cX5_readTown 9 = .ok (.if_icmp .lt 9, 3) := by decide +kernel
theorem dX5_readTown_12 : decode cX5_readTown 12 = .ok (.aload_n 0, 1) := by decide +kernel
theorem dX5_readTown_13 : decode cX5_readTown 13 = .ok (.iconst 2, 1) := by decide +kernel
theorem dX5_readTown_14 : decode cX5_readTown 14 = .ok (.invokevirtual 94, 3) := by decide +kernel
theorem dX5_readTown_17 : decode cX5_readTown 17 = .ok (.return_, 1) := by decide +kernel
theorem dX5_readTown_18 : decode cX5_readTown 18 = .ok (.aload_n 0, 1) := by decide +kernel
theorem dX5_readTown_19 : decode cX5_readTown 19 = .ok (.invokevirtual 43, 3) := by decide +kernel
theorem dX5_readTown_22 : decode cX5_readTown 22 = .ok (.aload_n 0, 1) := by decide +kernel
theorem dX5_readTown_23 : decode cX5_readTown 23 = .ok (.ldc 104, 2) := by decide +kernel
theorem dX5_readTown_25 : decode cX5_readTown 25 = .ok (.invokevirtual 57, 3) := by decide +kernel
theorem dX5_readTown_28 : decode cX5_readTown 28 = .ok (.ifCond .eq 28, 3) := by decide +kernel
theorem dX5_readTown_31 : decode cX5_readTown 31 = .ok (.aload_n 0, 1) := by decide +kernel
theorem dX5_readTown_32 : decode cX5_readTown 32 = .ok (.getfield 19, 3) := by decide +kernel
theorem dX5_readTown_35 : decode cX5_readTown 35 = .ok (.dup, 1) := by decide +kernel
theorem dX5_readTown_36 : decode cX5_readTown 36 = .ok (.getfield 106, 3) := by decide +kernel
theorem dX5_readTown_39 : decode cX5_readTown 39 = .ok (.iconst 1, 1) := by decide +kernel
theorem dX5_readTown_40 : decode cX5_readTown 40 = .ok (.aload_n 0, 1) := by decide +kernel
theorem dX5_readTown_41 : decode cX5_readTown 41 = .ok (.getfield 19, 3) := by decide +kernel
theorem dX5_readTown_44 : decode cX5_readTown 44 = .ok (.getfield 101, 3) := by decide +kernel
theorem dX5_readTown_47 : decode cX5_readTown 47 = .ok (.ishl, 1) := by decide +kernel
theorem dX5_readTown_48 : decode cX5_readTown 48 = .ok (.ior, 1) := by decide +kernel
theorem dX5_readTown_49 : decode cX5_readTown 49 = .ok (.putfield 106, 3) := by decide +kernel
theorem dX5_readTown_52 : decode cX5_readTown 52 = .ok (.aload_n 0, 1) := by decide +kernel
theorem dX5_readTown_53 : decode cX5_readTown 53 = .ok (.invokevirtual 43, 3) := by decide +kernel
theorem dX5_readTown_56 : decode cX5_readTown 56 = .ok (.aload_n 0, 1) := by decide +kernel
theorem dX5_readTown_57 : decode cX5_readTown 57 = .ok (.getfield 19, 3) := by decide +kernel
theorem dX5_readTown_60 : decode cX5_readTown 60 = .ok (.dup, 1) := by decide +kernel
theorem dX5_readTown_61 : decode cX5_readTown 61 = .ok (.getfield 101, 3) := by decide +kernel
theorem dX5_readTown_64 : decode cX5_readTown 64 = .ok (.iconst 1, 1) := by decide +kernel
theorem dX5_readTown_65 : decode cX5_readTown 65 = .ok (.iadd, 1) := by decide +kernel
theorem dX5_readTown_66 : decode cX5_readTown 66 = .ok (.putfield 101, 3) := by decide +kernel
theorem dX5_readTown_69 : decode cX5_readTown 69 = .ok (.return_, 1) := by decide +kernel
theorem dX5_lookAtNumber_0 : decode cX5_lookAtNumber 0 = .ok (.aload_n 0, 1) := by decide +kernel
theorem dX5_lookAtNumber_1 : decode cX5_lookAtNumber 1 = .ok (.getfield 46, 3) := by decide +kernel
theorem dX5_lookAtNumber_4 : decode cX5_lookAtNumber 4 = .ok (.iconst 2, 1) := by decide +kernel
theorem dX5_lookAtNumber_5 : decode cX5_lookAtNumber 5 = .ok (.if_icmp .eq 10, 3) := by decide +kernel
theorem dX5_lookAtNumber_8 : decode cX5_lookAtNumber 8 = .ok (.aload_n 0, 1) := by decide +kernel
theorem dX5_lookAtNumber_9 : decode cX5_lookAtNumber 9 = .ok (.iconst 1, 1) := by decide +kernel
theorem dX5_lookAtNumber_10 : decode cX5_lookAtNumber 10 = .ok (.invokevirtual 94, 3) := by decide +kernel
theorem dX5_lookAtNumber_13 : decode cX5_lookAtNumber 13 = .ok (.iconst (-1), 1) := by decide +kernel
theorem dX5_lookAtNumber_14 : decode cX5_lookAtNumber 14 = .ok (.ireturn, 1) := by decide +kernel
theorem dX5_lookAtNumber_15 : decode cX5_lookAtNumber 15 = .ok (.iconst 0, 1) := by decide +kernel
theorem dX5_lookAtNumber_16 : decode cX5_lookAtNumber 16 = .ok (.istore_n 3, 1) := by decide +kernel
theorem dX5_lookAtNumber_17 : decode cX5_lookAtNumber 17 = .ok (.aload_n 0, 1) := by decide +kernel
theorem dX5_lookAtNumber_18 : decode cX5_lookAtNumber 18 = .ok (.getfield 216, 3) := by decide +kernel
theorem dX5_lookAtNumber_21 : decode cX5_lookAtNumber 21 = .ok (.istore 4, 2) := by decide +kernel
theorem dX5_lookAtNumber_23 : decode cX5_lookAtNumber 23 = .ok (.iload 4, 2) := by decide +kernel
theorem dX5_lookAtNumber_25 : decode cX5_lookAtNumber 25 = .ok (.aload_n 0, 1) := by decide +kernel
theorem dX5_lookAtNumber_26 : decode cX5_lookAtNumber 26 = .ok (.getfield 40, 3) := by decide +kernel
theorem dX5_lookAtNumber_29 : decode cX5_lookAtNumber 29 = .ok (.if_icmp .ge 25, 3) := by decide +kernel
theorem dX5_lookAtNumber_32 : decode cX5_lookAtNumber 32 = .ok (.iload_n 3, 1) := by decide +kernel
theorem dX5_lookAtNumber_33 : decode cX5_lookAtNumber 33 = .ok (.bipush 10, 2) := by decide +kernel
theorem dX5_lookAtNumber_35 : decode cX5_lookAtNumber 35 = .ok (.imul, 1) := by decide +kernel
theorem dX5_lookAtNumber_36 : decode cX5_lookAtNumber 36 = .ok (.aload_n 0, 1) := by decide +kernel
theorem dX5_lookAtNumber_37 : decode cX5_lookAtNumber 37 = .ok (.getfield 15, 3) := by decide +kernel
theorem dX5_lookAtNumber_40 : decode cX5_lookAtNumber 40 = .ok (.iload 4, 2) := by decide +kernel
theorem dX5_lookAtNumber_42 : decode cX5_lookAtNumber 42 = .ok (.baload, 1) := by decide +kernel
theorem dX5_lookAtNumber_43 : decode cX5_lookAtNumber 43 = .ok (.bipush 48, 2) := by decide +kernel
theorem dX5_lookAtNumber_45 : decode cX5_lookAtNumber 45 = .ok (.isub, 1) := by decide +kernel
theorem dX5_lookAtNumber_46 : decode cX5_lookAtNumber 46 = .ok (.iadd, 1) := by decide +kernel
theorem dX5_lookAtNumber_47 : decode cX5_lookAtNumber 47 = .ok (.istore_n 3, 1) := by decide +kernel
theorem dX5_lookAtNumber_48 : decode cX5_lookAtNumber 48 = .ok (.iinc 4 1, 3) := by decide +kernel
theorem dX5_lookAtNumber_51 : decode cX5_lookAtNumber 51 = .ok (.goto (-28), 3) := by decide +kernel
theorem dX5_lookAtNumber_54 : decode cX5_lookAtNumber 54 = .ok (.aload_n 0, 1) := by decide +kernel
theorem dX5_lookAtNumber_55 : decode cX5_lookAtNumber 55 = .ok (.getfield 40, 3) := by decide +kernel
theorem dX5_lookAtNumber_58 : decode cX5_lookAtNumber 58 = .ok (.aload_n 0, 1) := by decide +kernel
theorem dX5_lookAtNumber_59 : decode cX5_lookAtNumber 59 = .ok (.getfield 216, 3) := by decide +kernel
theorem dX5_lookAtNumber_62 : decode cX5_lookAtNumber 62 = .ok (.isub, 1) := by decide +kernel
theorem dX5_lookAtNumber_63 : decode cX5_lookAtNumber 63 = .ok (.iconst 4, 1) := by decide +kernel
theorem dX5_lookAtNumber_64 : decode cX5_lookAtNumber 64 = .ok (.if_icmp .gt 13, 3) := by decide +kernel
theorem dX5_lookAtNumber_67 : decode cX5_lookAtNumber 67 = .ok (.iload_n 3, 1) := by decide +kernel
theorem dX5_lookAtNumber_68 : decode cX5_lookAtNumber 68 = .ok (.iload_n 1, 1) := by decide +kernel
theorem dX5_lookAtNumber_69 : decode cX5_lookAtNumber 69 = .ok (.if_icmp .lt 8, 3) := by decide +kernel
theorem dX5_lookAtNumber_72 : decode cX5_lookAtNumber 72 = .ok (.iload_n 3, 1) := by decide +kernel
theorem dX5_lookAtNumber_73 : decode cX5_lookAtNumber 73 = .ok (.iload_n 2, 1) := by decide +kernel
theorem dX5_lookAtNumber_74 : decode cX5_lookAtNumber 74 = .ok (.if_icmp .le 8, 3) := by decide +kernel
theorem dX5_lookAtNumber_77 : decode cX5_lookAtNumber 77 = .ok (.aload_n 0, 1) := by decide +kernel
theorem dX5_lookAtNumber_78 : decode cX5_lookAtNumber 78 = .ok (.iconst 2, 1) := by decide +kernel
theorem dX5_lookAtNumber_79 : decode cX5_lookAtNumber 79 = .ok (.invokevirtual 94, 3) := by decide +kernel
theorem dX5_lookAtNumber_82 : decode cX5_lookAtNumber 82 = .ok (.iload_n 3, 1) := by decide +kernel
theorem dX5_lookAtNumber_83 : decode cX5_lookAtNumber 83 = .ok (.ireturn, 1) := by decide +kernel
theorem dX5_lookAtTown_0 : decode cX5_lookAtTown 0 = .ok (.aload_n 0, 1) := by decide +kernel
theorem dX5_lookAtTown_1 : decode cX5_lookAtTown 1 = .ok (.iconst 0, 1) := by decide +kernel
theorem dX5_lookAtTown_2 : decode cX5_lookAtTown 2 = .ok (.sipush 9999, 3) := by decide +kernel
theorem dX5_lookAtTown_5 : decode cX5_lookAtTown 5 = .ok (.invokevirtual 213, 3) := by decide +kernel
theorem dX5_lookAtTown_8 : decode cX5_lookAtTown 8 = .ok (.istore_n 1, 1) := by decide +kernel
theorem dX5_lookAtTown_9 : decode cX5_lookAtTown 9 = .ok (.iload_n 1, 1) := by decide +kernel
theorem dX5_lookAtTown_10 : decode cX5_lookAtTown 10 = .ok (.aload_n 0, 1) := by decide +kernel
theorem dX5_lookAtTown_11 : decode cX5_lookAtTown 11 = .ok (.getfield 19, 3) := by decide +kernel
theorem dX5_lookAtTown_14 : decode cX5_lookAtTown 14 = .ok (.getfield 101, 3) := by decide +kernel
theorem dX5_lookAtTown_17 : decode cX5_lookAtTown 17 = .ok (.if_icmp .lt 8, 3) := by decide +kernel
theorem dX5_lookAtTown_20 : decode cX5_lookAtTown 20 = .ok (.aload_n 0, 1) := by decide +kernel
theorem dX5_lookAtTown_21 : decode cX5_lookAtTown 21 = .ok (.iconst 3, 1) := by decide +kernel
theorem dX5_lookAtTown_22 : decode cX5_lookAtTown 22 = .ok (.invokevirtual 94, 3) := by decide +kernel
theorem dX5_lookAtTown_25 : decode cX5_lookAtTown 25 = .ok (.aload_n 0, 1) := by decide +kernel
theorem dX5_lookAtTown_26 : decode cX5_lookAtTown 26 = .ok (.getfield 37, 3) := by decide +kernel
theorem dX5_lookAtTown_29 : decode cX5_lookAtTown 29 = .ok (.ifCond .ne 7, 3) := by decide +kernel
theorem dX5_lookAtTown_32 : decode cX5_lookAtTown 32 = .ok (.iload_n 1, 1) := by decide +kernel
theorem dX5_lookAtTown_33 : decode cX5_lookAtTown 33 = .ok (.goto 4, 3) := by decide +kernel
theorem dX5_lookAtTown_36 : decode cX5_lookAtTown 36 = .ok (.iconst (-1), 1) := by decide +kernel
theorem dX5_lookAtTown_37 : decode cX5_lookAtTown 37 = .ok (.ireturn, 1) := by decide +kernel
theorem dX5_takeNumber_0 : decode cX5_takeNumber 0 = .ok (.aload_n 0, 1) := by decide +kernel
theorem dX5_takeNumber_1 : decode cX5_takeNumber 1 = .ok (.iload_n 1, 1) := by decide +kernel
theorem dX5_takeNumber_2 : decode cX5_takeNumber 2 = .ok (.iload_n 2, 1) := by decide +kernel
theorem dX5_takeNumber_3 : decode cX5_takeNumber 3 = .ok (.invokevirtual 213, 3) := by decide +kernel
theorem dX5_takeNumber_6 : decode cX5_takeNumber 6 = .ok (.istore_n 3, 1) := by decide +kernel
theorem dX5_takeNumber_7 : decode cX5_takeNumber 7 = .ok (.aload_n 0, 1) := by decide +kernel
theorem dX5_takeNumber_8 : decode cX5_takeNumber 8 = .ok (.invokevirtual 43, 3) := by decide +kernel
theorem dX5_takeNumber_11 : decode cX5_takeNumber 11 = .ok (.iload_n 3, 1) := by decide +kernel
theorem dX5_takeNumber_12 : decode cX5_takeNumber 12 = .ok (.ireturn, 1) := by decide +kernel
def f_X3_measureWays_120 (k110 : Mem → Int32 → Option (Mem)) (z0 : Nat) : Nat → Mem → Int32 → Int32 → Option (Mem)
  | 0, _, _, _ => none
  | fu + 1, I, v1, v2 =>
    if (I 3 z0 0 0) ≤ v2 then (k110 I (v1 + (1 : Int32))) else (gd (inb v1 9) <|
    gd (inb v2 9) <|
    bnd (I 30 z0 v1.toNatClampNeg v2.toNatClampNeg) fun x1 =>
    if x1 = (-1 : Int32) then (bnd (upd4 I 32 z0 v1.toNatClampNeg v2.toNatClampNeg (-1 : Int32)) fun I2' =>
    (f_X3_measureWays_120 k110 z0 fu) I2' v1 (v2 + (1 : Int32))) else ((f_X3_gossipTenths I z0).bind fun y1 =>
    bnd (upd4 I 32 z0 v1.toNatClampNeg v2.toNatClampNeg (((x1 * y1) + (9 : Int32)) / (10 : Int32))) fun I1' =>
    (f_X3_measureWays_120 k110 z0 fu) I1' v1 (v2 + (1 : Int32))))
theorem b_X3_measureWays_120 (X : CX) (Q : State → Prop) {P : PMem} {O : Nat → Int64} {D : Bool} {n : Nat} {k110 : Mem → Int32 → Option (Mem)} {z0 : Nat} {r : (Mem)}  (H110 : ∀ (I : Mem) (v1 : Int32), k110 I v1 = some r → Here X cX3_measureWays RX3 4 (none) 3 n 110 [some (.inr (.inr (3, z0, 0))), some (.inl v1), none, none] [] I P O D n Q) (hz0 : z0 < 2) : ∀ (fu : Nat) {I : Mem} {v1 : Int32} {v2 : Int32}, f_X3_measureWays_120 k110 z0 fu I v1 v2 = some r → EndR X cX3_measureWays RX3 4 (none) 3 n none r P O D Q → Here X cX3_measureWays RX3 4 (none) 3 n 120 [some (.inr (.inr (3, z0, 0))), some (.inl v1), some (.inl v2), none] [] I P O D n Q := by
  intro fu
  induction fu with
  | zero => intro I v1 v2 h E; cases h
  | succ fu ih =>
  intro I v1 v2 h E
  have H120 : ∀ (I : Mem) (v1 : Int32) (v2 : Int32), f_X3_measureWays_120 k110 z0 fu I v1 v2 = some r → Here X cX3_measureWays RX3 4 (none) 3 n 120 [some (.inr (.inr (3, z0, 0))), some (.inl v1), some (.inl v2), none] [] I P O D n Q := fun _ _ _ b => ih b E
  simp only [f_X3_measureWays_120] at h
  refine h_iload_n dX3_measureWays_120 rfl ?_
  refine h_aload_n dX3_measureWays_121 rfl ?_
  refine g_X3_48 (by omega) dX3_measureWays_122 ?_
  refine h_icmp_ge (tgt := 172) dX3_measureWays_125 (by decide) (fun q1 => ?_) (fun q1 => ?_)
  · rw [if_pos q1] at h
    refine h_iinc (1 : Int32) dX3_measureWays_172 rfl k_iinc_1 (by decide) rfl ?_
    refine h_goto (tgt := 110) dX3_measureWays_175 (by decide) ?_
    exact h_mask [true, true, false, false] (H110 _ _ h)
  · rw [if_neg q1] at h
    refine h_aload_n dX3_measureWays_128 rfl ?_
    refine g_X3_16 (by omega) dX3_measureWays_129 ?_
    refine h_iload_n dX3_measureWays_132 rfl ?_
    obtain ⟨g1, h⟩ := gd_some h
    refine ag_29 (by omega) v1.toNatClampNeg rfl dX3_measureWays_133 g1 ?_
    have w1 := inb_lt g1
    refine h_iload_n dX3_measureWays_134 rfl ?_
    obtain ⟨g2, h⟩ := gd_some h
    refine al_30 (by omega) (by omega) v2.toNatClampNeg rfl dX3_measureWays_135 g2 ?_
    obtain ⟨x1, e1, h⟩ := bnd_some h
    refine h_nmv e1 ?_
    refine h_istore_n dX3_measureWays_136 (by decide) rfl ?_
    refine h_aload_n dX3_measureWays_137 rfl ?_
    refine g_X3_19 (by omega) dX3_measureWays_138 ?_
    refine h_iload_n dX3_measureWays_141 rfl ?_
    refine ag_31 (by omega) v1.toNatClampNeg rfl dX3_measureWays_142 g1 ?_
    refine h_iload_n dX3_measureWays_143 rfl ?_
    refine h_iload_n dX3_measureWays_144 rfl ?_
    refine h_iconst (-1 : Int32) dX3_measureWays_145 k_iconst_m1 ?_
    refine h_icmp_ne (tgt := 153) dX3_measureWays_146 (by decide) (fun q2 => ?_) (fun q2 => ?_)
    · rw [if_neg q2] at h
      refine h_iload_n dX3_measureWays_153 rfl ?_
      refine h_aload_n dX3_measureWays_154 rfl ?_
      obtain ⟨y1, hh1, h⟩ := obd_some h
      refine h_cVi [] (m_X3_gossipTenths (by omega) hh1) cw_X3_84 dX3_measureWays_155 rfl (ok_3 (by omega)) (by decide) rfl (Or.inr rfl) rfl ?_
      refine h_imul dX3_measureWays_158 ?_
      refine h_bipush (9 : Int32) dX3_measureWays_159 k_bipush_9 ?_
      refine h_iadd dX3_measureWays_161 ?_
      refine h_bipush (10 : Int32) dX3_measureWays_162 k_bipush_10 ?_
      refine h_div dX3_measureWays_164 (by decide) ?_
      obtain ⟨I1', e2, h⟩ := bnd_some h
      refine as_32 (by omega) (by omega) v2.toNatClampNeg rfl dX3_measureWays_165 g2 ?_
      refine h_nmI e2 ?_
      refine h_iinc (1 : Int32) dX3_measureWays_166 rfl k_iinc_1 (by decide) rfl ?_
      refine h_goto (tgt := 120) dX3_measureWays_169 (by decide) ?_
      exact h_mask [true, true, true, false] (H120 _ _ _ h)
    · rw [if_pos q2] at h
      refine h_iconst (-1 : Int32) dX3_measureWays_149 k_iconst_m1 ?_
      refine h_goto (tgt := 165) dX3_measureWays_150 (by decide) ?_
      obtain ⟨I2', e3, h⟩ := bnd_some h
      refine as_32 (by omega) (by omega) v2.toNatClampNeg rfl dX3_measureWays_165 g2 ?_
      refine h_nmI e3 ?_
      refine h_iinc (1 : Int32) dX3_measureWays_166 rfl k_iinc_1 (by decide) rfl ?_
      refine h_goto (tgt := 120) dX3_measureWays_169 (by decide) ?_
      exact h_mask [true, true, true, false] (H120 _ _ _ h)
def f_X3_measureWays_110  (z0 : Nat) : Nat → Mem → Int32 → Option (Mem)
  | 0, _, _ => none
  | fu + 1, I, v1 =>
    if (I 3 z0 0 0) ≤ v1 then (some I) else (f_X3_measureWays_120 (f_X3_measureWays_110 z0 fu) z0 FU I v1 (0 : Int32))
theorem b_X3_measureWays_110 (X : CX) (Q : State → Prop) {P : PMem} {O : Nat → Int64} {D : Bool} {n : Nat} {z0 : Nat} {r : (Mem)}  (hz0 : z0 < 2) : ∀ (fu : Nat) {I : Mem} {v1 : Int32}, f_X3_measureWays_110 z0 fu I v1 = some r → EndR X cX3_measureWays RX3 4 (none) 3 n none r P O D Q → Here X cX3_measureWays RX3 4 (none) 3 n 110 [some (.inr (.inr (3, z0, 0))), some (.inl v1), none, none] [] I P O D n Q := by
  intro fu
  induction fu with
  | zero => intro I v1 h E; cases h
  | succ fu ih =>
  intro I v1 h E
  have H110 : ∀ (I : Mem) (v1 : Int32), f_X3_measureWays_110 z0 fu I v1 = some r → Here X cX3_measureWays RX3 4 (none) 3 n 110 [some (.inr (.inr (3, z0, 0))), some (.inl v1), none, none] [] I P O D n Q := fun _ _ b => ih b E
  simp only [f_X3_measureWays_110] at h
  refine h_iload_n dX3_measureWays_110 rfl ?_
  refine h_aload_n dX3_measureWays_111 rfl ?_
  refine g_X3_48 (by omega) dX3_measureWays_112 ?_
  refine h_icmp_ge (tgt := 178) dX3_measureWays_115 (by decide) (fun q1 => ?_) (fun q1 => ?_)
  · rw [if_pos q1] at h
    cases h
    exact h_vret dX3_measureWays_178 rfl E
  · rw [if_neg q1] at h
    refine h_iconst (0 : Int32) dX3_measureWays_118 k_iconst_0 ?_
    refine h_istore_n dX3_measureWays_119 (by decide) rfl ?_
    exact (b_X3_measureWays_120 X Q H110 hz0 FU  h E)
def f_X3_measureWays_82 (k72 : Mem → Int32 → Option (Mem)) (z0 : Nat) : Nat → Mem → Int32 → Int32 → Option (Mem)
  | 0, _, _, _ => none
  | fu + 1, I, v1, v2 =>
    if (I 3 z0 0 0) ≤ v2 then (k72 I (v1 + (1 : Int32))) else ((f_X3_shortenWaysBy z0 I v1 v2).bind fun y1 =>
    (f_X3_measureWays_82 k72 z0 fu) y1 v1 (v2 + (1 : Int32)))
theorem b_X3_measureWays_82 (X : CX) (Q : State → Prop) {P : PMem} {O : Nat → Int64} {D : Bool} {n : Nat} {k72 : Mem → Int32 → Option (Mem)} {z0 : Nat} {r : (Mem)}  (H72 : ∀ (I : Mem) (v1 : Int32), k72 I v1 = some r → Here X cX3_measureWays RX3 4 (none) 3 n 72 [some (.inr (.inr (3, z0, 0))), some (.inl v1), none, none] [] I P O D n Q) (hz0 : z0 < 2) : ∀ (fu : Nat) {I : Mem} {v1 : Int32} {v2 : Int32}, f_X3_measureWays_82 k72 z0 fu I v1 v2 = some r → EndR X cX3_measureWays RX3 4 (none) 3 n none r P O D Q → Here X cX3_measureWays RX3 4 (none) 3 n 82 [some (.inr (.inr (3, z0, 0))), some (.inl v1), some (.inl v2), none] [] I P O D n Q := by
  intro fu
  induction fu with
  | zero => intro I v1 v2 h E; cases h
  | succ fu ih =>
  intro I v1 v2 h E
  have H82 : ∀ (I : Mem) (v1 : Int32) (v2 : Int32), f_X3_measureWays_82 k72 z0 fu I v1 v2 = some r → Here X cX3_measureWays RX3 4 (none) 3 n 82 [some (.inr (.inr (3, z0, 0))), some (.inl v1), some (.inl v2), none] [] I P O D n Q := fun _ _ _ b => ih b E
  simp only [f_X3_measureWays_82] at h
  refine h_iload_n dX3_measureWays_82 rfl ?_
  refine h_aload_n dX3_measureWays_83 rfl ?_
  refine g_X3_48 (by omega) dX3_measureWays_84 ?_
  refine h_icmp_ge (tgt := 102) dX3_measureWays_87 (by decide) (fun q1 => ?_) (fun q1 => ?_)
  · rw [if_pos q1] at h
    refine h_iinc (1 : Int32) dX3_measureWays_102 rfl k_iinc_1 (by decide) rfl ?_
    refine h_goto (tgt := 72) dX3_measureWays_105 (by decide) ?_
    exact h_mask [true, true, false, false] (H72 _ _ h)
  · rw [if_neg q1] at h
    refine h_aload_n dX3_measureWays_90 rfl ?_
    refine h_iload_n dX3_measureWays_91 rfl ?_
    refine h_iload_n dX3_measureWays_92 rfl ?_
    obtain ⟨y1, hh1, h⟩ := obd_some h
    refine h_cVv [.inl v1, .inl v2] (m_X3_shortenWaysBy (by omega) hh1) cw_X3_80 dX3_measureWays_93 rfl (ok_3 (by omega)) (by decide) rfl (Or.inr rfl) rfl ?_
    refine h_iinc (1 : Int32) dX3_measureWays_96 rfl k_iinc_1 (by decide) rfl ?_
    refine h_goto (tgt := 82) dX3_measureWays_99 (by decide) ?_
    exact (H82 _ _ _ h)
def f_X3_measureWays_72  (z0 : Nat) : Nat → Mem → Int32 → Option (Mem)
  | 0, _, _ => none
  | fu + 1, I, v1 =>
    if (I 3 z0 0 0) ≤ v1 then (f_X3_measureWays_110 z0 FU I (0 : Int32)) else (f_X3_measureWays_82 (f_X3_measureWays_72 z0 fu) z0 FU I v1 (0 : Int32))
theorem b_X3_measureWays_72 (X : CX) (Q : State → Prop) {P : PMem} {O : Nat → Int64} {D : Bool} {n : Nat} {z0 : Nat} {r : (Mem)}  (hz0 : z0 < 2) : ∀ (fu : Nat) {I : Mem} {v1 : Int32}, f_X3_measureWays_72 z0 fu I v1 = some r → EndR X cX3_measureWays RX3 4 (none) 3 n none r P O D Q → Here X cX3_measureWays RX3 4 (none) 3 n 72 [some (.inr (.inr (3, z0, 0))), some (.inl v1), none, none] [] I P O D n Q := by
  intro fu
  induction fu with
  | zero => intro I v1 h E; cases h
  | succ fu ih =>
  intro I v1 h E
  have H72 : ∀ (I : Mem) (v1 : Int32), f_X3_measureWays_72 z0 fu I v1 = some r → Here X cX3_measureWays RX3 4 (none) 3 n 72 [some (.inr (.inr (3, z0, 0))), some (.inl v1), none, none] [] I P O D n Q := fun _ _ b => ih b E
  simp only [f_X3_measureWays_72] at h
  refine h_iload_n dX3_measureWays_72 rfl ?_
  refine h_aload_n dX3_measureWays_73 rfl ?_
  refine g_X3_48 (by omega) dX3_measureWays_74 ?_
  refine h_icmp_ge (tgt := 108) dX3_measureWays_77 (by decide) (fun q1 => ?_) (fun q1 => ?_)
  · rw [if_pos q1] at h
    refine h_iconst (0 : Int32) dX3_measureWays_108 k_iconst_0 ?_
    refine h_istore_n dX3_measureWays_109 (by decide) rfl ?_
    exact (b_X3_measureWays_110 X Q hz0 FU  h E)
  · rw [if_neg q1] at h
    refine h_iconst (0 : Int32) dX3_measureWays_80 k_iconst_0 ?_
    refine h_istore_n dX3_measureWays_81 (by decide) rfl ?_
    exact (b_X3_measureWays_82 X Q H72 hz0 FU  h E)
def f_X3_measureWays_12 (k2 : Mem → Int32 → Option (Mem)) (z0 : Nat) : Nat → Mem → Int32 → Int32 → Option (Mem)
  | 0, _, _, _ => none
  | fu + 1, I, v1, v2 =>
    if (I 3 z0 0 0) ≤ v2 then (k2 I (v1 + (1 : Int32))) else (gd (inb v1 9) <|
    if v1 = v2 then (gd (inb v2 9) <|
    bnd (upd4 I 30 z0 v1.toNatClampNeg v2.toNatClampNeg (0 : Int32)) fun I3' =>
    (f_X3_measureWays_12 k2 z0 fu) I3' v1 (v2 + (1 : Int32))) else ((f_X3_isJoined I z0 v1 v2).bind fun y1 =>
    if y1 = 0 then (gd (inb v2 9) <|
    bnd (upd4 I 30 z0 v1.toNatClampNeg v2.toNatClampNeg (-1 : Int32)) fun I1' =>
    (f_X3_measureWays_12 k2 z0 fu) I1' v1 (v2 + (1 : Int32))) else (gd (inb v2 9) <|
    bnd (upd4 I 30 z0 v1.toNatClampNeg v2.toNatClampNeg (I 28 z0 v1.toNatClampNeg v2.toNatClampNeg)) fun I2' =>
    (f_X3_measureWays_12 k2 z0 fu) I2' v1 (v2 + (1 : Int32)))))
theorem b_X3_measureWays_12 (X : CX) (Q : State → Prop) {P : PMem} {O : Nat → Int64} {D : Bool} {n : Nat} {k2 : Mem → Int32 → Option (Mem)} {z0 : Nat} {r : (Mem)}  (H2 : ∀ (I : Mem) (v1 : Int32), k2 I v1 = some r → Here X cX3_measureWays RX3 4 (none) 3 n 2 [some (.inr (.inr (3, z0, 0))), some (.inl v1), none, none] [] I P O D n Q) (hz0 : z0 < 2) : ∀ (fu : Nat) {I : Mem} {v1 : Int32} {v2 : Int32}, f_X3_measureWays_12 k2 z0 fu I v1 v2 = some r → EndR X cX3_measureWays RX3 4 (none) 3 n none r P O D Q → Here X cX3_measureWays RX3 4 (none) 3 n 12 [some (.inr (.inr (3, z0, 0))), some (.inl v1), some (.inl v2), none] [] I P O D n Q := by
  intro fu
  induction fu with
  | zero => intro I v1 v2 h E; cases h
  | succ fu ih =>
  intro I v1 v2 h E
  have H12 : ∀ (I : Mem) (v1 : Int32) (v2 : Int32), f_X3_measureWays_12 k2 z0 fu I v1 v2 = some r → Here X cX3_measureWays RX3 4 (none) 3 n 12 [some (.inr (.inr (3, z0, 0))), some (.inl v1), some (.inl v2), none] [] I P O D n Q := fun _ _ _ b => ih b E
  simp only [f_X3_measureWays_12] at h
  refine h_iload_n dX3_measureWays_12 rfl ?_
  refine h_aload_n dX3_measureWays_13 rfl ?_
  refine g_X3_48 (by omega) dX3_measureWays_14 ?_
  refine h_icmp_ge (tgt := 64) dX3_measureWays_17 (by decide) (fun q1 => ?_) (fun q1 => ?_)
  · rw [if_pos q1] at h
    refine h_iinc (1 : Int32) dX3_measureWays_64 rfl k_iinc_1 (by decide) rfl ?_
    refine h_goto (tgt := 2) dX3_measureWays_67 (by decide) ?_
    exact h_mask [true, true, false, false] (H2 _ _ h)
  · rw [if_neg q1] at h
    refine h_aload_n dX3_measureWays_20 rfl ?_
    refine g_X3_16 (by omega) dX3_measureWays_21 ?_
    refine h_iload_n dX3_measureWays_24 rfl ?_
    obtain ⟨g1, h⟩ := gd_some h
    refine ag_29 (by omega) v1.toNatClampNeg rfl dX3_measureWays_25 g1 ?_
    have w1 := inb_lt g1
    refine h_iload_n dX3_measureWays_26 rfl ?_
    refine h_iload_n dX3_measureWays_27 rfl ?_
    refine h_iload_n dX3_measureWays_28 rfl ?_
    refine h_icmp_ne (tgt := 36) dX3_measureWays_29 (by decide) (fun q2 => ?_) (fun q2 => ?_)
    · rw [if_neg q2] at h
      refine h_aload_n dX3_measureWays_36 rfl ?_
      refine h_iload_n dX3_measureWays_37 rfl ?_
      refine h_iload_n dX3_measureWays_38 rfl ?_
      obtain ⟨y1, hh1, h⟩ := obd_some h
      refine h_cVi [.inl v1, .inl v2] (m_X3_isJoined (by omega) hh1) cw_X3_76 dX3_measureWays_39 rfl (ok_3 (by omega)) (by decide) rfl (Or.inr rfl) rfl ?_
      refine h_if_eq (tgt := 56) dX3_measureWays_42 (by decide) (fun q3 => ?_) (fun q3 => ?_)
      · rw [if_pos q3] at h
        refine h_iconst (-1 : Int32) dX3_measureWays_56 k_iconst_m1 ?_
        obtain ⟨g2, h⟩ := gd_some h
        obtain ⟨I1', e1, h⟩ := bnd_some h
        refine as_30 (by omega) (by omega) v2.toNatClampNeg rfl dX3_measureWays_57 g2 ?_
        refine h_nmI e1 ?_
        refine h_iinc (1 : Int32) dX3_measureWays_58 rfl k_iinc_1 (by decide) rfl ?_
        refine h_goto (tgt := 12) dX3_measureWays_61 (by decide) ?_
        exact (H12 _ _ _ h)
      · rw [if_neg q3] at h
        refine h_aload_n dX3_measureWays_45 rfl ?_
        refine g_X3_11 (by omega) dX3_measureWays_46 ?_
        refine h_iload_n dX3_measureWays_49 rfl ?_
        refine ag_27 (by omega) v1.toNatClampNeg rfl dX3_measureWays_50 g1 ?_
        refine h_iload_n dX3_measureWays_51 rfl ?_
        obtain ⟨g3, h⟩ := gd_some h
        refine al_28 (by omega) (by omega) v2.toNatClampNeg rfl dX3_measureWays_52 g3 ?_
        refine h_goto (tgt := 57) dX3_measureWays_53 (by decide) ?_
        obtain ⟨I2', e2, h⟩ := bnd_some h
        refine as_30 (by omega) (by omega) v2.toNatClampNeg rfl dX3_measureWays_57 g3 ?_
        refine h_nmI e2 ?_
        refine h_iinc (1 : Int32) dX3_measureWays_58 rfl k_iinc_1 (by decide) rfl ?_
        refine h_goto (tgt := 12) dX3_measureWays_61 (by decide) ?_
        exact (H12 _ _ _ h)
    · rw [if_pos q2] at h
      refine h_iconst (0 : Int32) dX3_measureWays_32 k_iconst_0 ?_
      refine h_goto (tgt := 57) dX3_measureWays_33 (by decide) ?_
      obtain ⟨g4, h⟩ := gd_some h
      obtain ⟨I3', e3, h⟩ := bnd_some h
      refine as_30 (by omega) (by omega) v2.toNatClampNeg rfl dX3_measureWays_57 g4 ?_
      refine h_nmI e3 ?_
      refine h_iinc (1 : Int32) dX3_measureWays_58 rfl k_iinc_1 (by decide) rfl ?_
      refine h_goto (tgt := 12) dX3_measureWays_61 (by decide) ?_
      exact (H12 _ _ _ h)
def f_X3_measureWays_2  (z0 : Nat) : Nat → Mem → Int32 → Option (Mem)
  | 0, _, _ => none
  | fu + 1, I, v1 =>
    if (I 3 z0 0 0) ≤ v1 then (f_X3_measureWays_72 z0 FU I (0 : Int32)) else (f_X3_measureWays_12 (f_X3_measureWays_2 z0 fu) z0 FU I v1 (0 : Int32))
theorem b_X3_measureWays_2 (X : CX) (Q : State → Prop) {P : PMem} {O : Nat → Int64} {D : Bool} {n : Nat} {z0 : Nat} {r : (Mem)}  (hz0 : z0 < 2) : ∀ (fu : Nat) {I : Mem} {v1 : Int32}, f_X3_measureWays_2 z0 fu I v1 = some r → EndR X cX3_measureWays RX3 4 (none) 3 n none r P O D Q → Here X cX3_measureWays RX3 4 (none) 3 n 2 [some (.inr (.inr (3, z0, 0))), some (.inl v1), none, none] [] I P O D n Q := by
  intro fu
  induction fu with
  | zero => intro I v1 h E; cases h
  | succ fu ih =>
  intro I v1 h E
  have H2 : ∀ (I : Mem) (v1 : Int32), f_X3_measureWays_2 z0 fu I v1 = some r → Here X cX3_measureWays RX3 4 (none) 3 n 2 [some (.inr (.inr (3, z0, 0))), some (.inl v1), none, none] [] I P O D n Q := fun _ _ b => ih b E
  simp only [f_X3_measureWays_2] at h
  refine h_iload_n dX3_measureWays_2 rfl ?_
  refine h_aload_n dX3_measureWays_3 rfl ?_
  refine g_X3_48 (by omega) dX3_measureWays_4 ?_
  refine h_icmp_ge (tgt := 70) dX3_measureWays_7 (by decide) (fun q1 => ?_) (fun q1 => ?_)
  · rw [if_pos q1] at h
    refine h_iconst (0 : Int32) dX3_measureWays_70 k_iconst_0 ?_
    refine h_istore_n dX3_measureWays_71 (by decide) rfl ?_
    exact (b_X3_measureWays_72 X Q hz0 FU  h E)
  · rw [if_neg q1] at h
    refine h_iconst (0 : Int32) dX3_measureWays_10 k_iconst_0 ?_
    refine h_istore_n dX3_measureWays_11 (by decide) rfl ?_
    exact (b_X3_measureWays_12 X Q H2 hz0 FU  h E)
def f_X3_measureWays  (z0 : Nat) (I : Mem) : Option (Mem) :=
  f_X3_measureWays_2 z0 FU I (0 : Int32)
theorem b_X3_measureWays (X : CX) (Q : State → Prop) {I : Mem} {P : PMem} {O : Nat → Int64} {D : Bool} {n : Nat} {z0 : Nat} {r : (Mem)}  (hz0 : z0 < 2) (h : f_X3_measureWays z0 I = some r) (E : EndR X cX3_measureWays RX3 4 (none) 3 n none r P O D Q) : Here X cX3_measureWays RX3 4 (none) 3 n 0 [some (.inr (.inr (3, z0, 0))), none, none, none] [] I P O D n Q := by
  unfold f_X3_measureWays at h
  refine h_iconst (0 : Int32) dX3_measureWays_0 k_iconst_0 ?_
  refine h_istore_n dX3_measureWays_1 (by decide) rfl ?_
  exact (b_X3_measureWays_2 X Q hz0 FU  h E)
theorem m_X3_measureWays {I : Mem} {P : PMem} {O : Nat → Int64} {D : Bool} {n : Nat} {z0 : Nat} {r : (Mem)} (hz0 : z0 < 2) (h : f_X3_measureWays z0 I = some r) : MethR yX3_measureWays cX3_measureWays 4 (none) 3 [.inr (.inr (3, z0, 0))] I P O D n none r P O D n := meth_R (Nat.le_refl _) (by decide) rfl (Nat.le_of_ble_eq_true rfl) rfl (fun X Q E => b_X3_measureWays X Q hz0 h E)
def f_X4_isTold  (I : Mem) (z0 : Nat)  : Option (Int32) :=
  if (I 4 z0 0 1) ≤ 0 then (some (0 : Int32)) else (some (1 : Int32))
theorem b_X4_isTold (X : CX) (Q : State → Prop) {I : Mem} {P : PMem} {O : Nat → Int64} {D : Bool} {n : Nat} {z0 : Nat} {r : (Int32)}  (hz0 : z0 < 2) (h : f_X4_isTold I z0 = some r) (E : EndR X cX4_isTold RX4 1 (some .boolean) 2 n (some (.inl r)) I P O D Q) : Here X cX4_isTold RX4 1 (some .boolean) 2 n 0 [some (.inr (.inr (4, z0, 0)))] [] I P O D n Q := by
  unfold f_X4_isTold at h
  refine h_aload_n dX4_isTold_0 rfl ?_
  refine g_X4_21 (by omega) dX4_isTold_1 ?_
  refine h_if_le (tgt := 11) dX4_isTold_4 (by decide) (fun q1 => ?_) (fun q1 => ?_)
  · rw [if_pos q1] at h
    refine h_iconst (0 : Int32) dX4_isTold_11 k_iconst_0 ?_
    cases h
    exact h_zret dX4_isTold_12 rfl rfl E
  · rw [if_neg q1] at h
    refine h_iconst (1 : Int32) dX4_isTold_7 k_iconst_1 ?_
    refine h_goto (tgt := 12) dX4_isTold_8 (by decide) ?_
    cases h
    exact h_zret dX4_isTold_12 rfl rfl E
theorem m_X4_isTold {I : Mem} {P : PMem} {O : Nat → Int64} {D : Bool} {n : Nat} {z0 : Nat} {r : (Int32)} (hz0 : z0 < 2) (h : f_X4_isTold I z0 = some r) : MethR yX4_isTold cX4_isTold 1 (some .boolean) 2 [.inr (.inr (4, z0, 0))] I P O D n (some (.inl r)) I P O D n := meth_R (Nat.le_refl _) (by decide) rfl (Nat.le_of_ble_eq_true rfl) rfl (fun X Q E => b_X4_isTold X Q hz0 h E)
def f_X4_add  (z0 : Nat) (I : Mem) (v1 : Int32) : Option (Mem) :=
  if (600 : Int32) ≤ (I 4 z0 0 1) then (some I) else (gd (inb (I 4 z0 0 1) 600) <|
  bnd (upd4 I 41 z0 0 ((I 4 z0 0 1).toNatClampNeg) v1) fun I1' =>
  bnd (upd4 I1' 4 z0 0 1 ((I1' 4 z0 0 1) + (1 : Int32))) fun I2' =>
  some I2')
theorem b_X4_add (X : CX) (Q : State → Prop) {I : Mem} {P : PMem} {O : Nat → Int64} {D : Bool} {n : Nat} {z0 : Nat} {v1 : Int32} {r : (Mem)}  (hz0 : z0 < 2) (h : f_X4_add z0 I v1 = some r) (E : EndR X cX4_add RX4 2 (none) 2 n none r P O D Q) : Here X cX4_add RX4 2 (none) 2 n 0 [some (.inr (.inr (4, z0, 0))), some (.inl v1)] [] I P O D n Q := by
  unfold f_X4_add at h
  refine h_aload_n dX4_add_0 rfl ?_
  refine g_X4_21 (by omega) dX4_add_1 ?_
  refine h_aload_n dX4_add_4 rfl ?_
  refine g_X4_9 (by omega) dX4_add_5 ?_
  refine h_aleni (600 : Int32) rfl dX4_add_8 (ok_41 (by omega)) rfl ?_
  refine h_icmp_ge (tgt := 32) dX4_add_9 (by decide) (fun q1 => ?_) (fun q1 => ?_)
  · rw [if_pos q1] at h
    cases h
    exact h_vret dX4_add_32 rfl E
  · rw [if_neg q1] at h
    refine h_aload_n dX4_add_12 rfl ?_
    refine g_X4_9 (by omega) dX4_add_13 ?_
    refine h_aload_n dX4_add_16 rfl ?_
    refine g_X4_21 (by omega) dX4_add_17 ?_
    refine h_iload_n dX4_add_20 rfl ?_
    obtain ⟨g1, h⟩ := gd_some h
    obtain ⟨I1', e1, h⟩ := bnd_some h
    refine as_41 (by omega) ((I 4 z0 0 1).toNatClampNeg) rfl dX4_add_21 g1 ?_
    refine h_nmI e1 ?_
    refine h_aload_n dX4_add_22 rfl ?_
    refine h_dup dX4_add_23 (fun _ => rfl) ?_
    refine g_X4_21 (by omega) dX4_add_24 ?_
    refine h_iconst (1 : Int32) dX4_add_27 k_iconst_1 ?_
    refine h_iadd dX4_add_28 ?_
    obtain ⟨I2', e2, h⟩ := bnd_some h
    refine p_X4_21 (by omega) dX4_add_29 ?_
    refine h_nmI e2 ?_
    cases h
    exact h_vret dX4_add_32 rfl E
theorem m_X4_add {I : Mem} {P : PMem} {O : Nat → Int64} {D : Bool} {n : Nat} {z0 : Nat} {v1 : Int32} {r : (Mem)} (hz0 : z0 < 2) (h : f_X4_add z0 I v1 = some r) : MethR yX4_add cX4_add 2 (none) 2 [.inr (.inr (4, z0, 0)), .inl v1] I P O D n none r P O D n := meth_R (Nat.le_refl _) (by decide) rfl (Nat.le_of_ble_eq_true rfl) rfl (fun X Q E => b_X4_add X Q hz0 h E)
def f_X5_kindOf_28  (I : Mem) (v0 : Int32) : Option (Int32) :=
  (if v0 = (40 : Int32) then (some (3 : Int32)) else (if v0 = (41 : Int32) then (some (3 : Int32)) else (if v0 = (42 : Int32) then (some (3 : Int32)) else (if v0 = (43 : Int32) then (some (3 : Int32)) else (if v0 = (44 : Int32) then (some (4 : Int32)) else (if v0 = (45 : Int32) then (some (3 : Int32)) else (if v0 = (46 : Int32) then (some (4 : Int32)) else (if v0 = (47 : Int32) then (some (3 : Int32)) else (if v0 = (48 : Int32) then (some (4 : Int32)) else (if v0 = (49 : Int32) then (some (4 : Int32)) else (if v0 = (50 : Int32) then (some (4 : Int32)) else (if v0 = (51 : Int32) then (some (4 : Int32)) else (if v0 = (52 : Int32) then (some (4 : Int32)) else (if v0 = (53 : Int32) then (some (4 : Int32)) else (if v0 = (54 : Int32) then (some (4 : Int32)) else (if v0 = (55 : Int32) then (some (4 : Int32)) else (if v0 = (56 : Int32) then (some (4 : Int32)) else (if v0 = (57 : Int32) then (some (4 : Int32)) else (if v0 = (58 : Int32) then (some (4 : Int32)) else (if v0 = (59 : Int32) then (some (3 : Int32)) else (if v0 = (60 : Int32) then (some (3 : Int32)) else (if v0 = (61 : Int32) then (some (3 : Int32)) else (some (4 : Int32))))))))))))))))))))))))
theorem b_X5_kindOf_28 (X : CX) (Q : State → Prop) {I : Mem} {P : PMem} {O : Nat → Int64} {D : Bool} {n : Nat} {v0 : Int32} {r : (Int32)}  (h : f_X5_kindOf_28 I v0 = some r) (E : EndR X cX5_kindOf RX5 1 (some .int) 2 n (some (.inl r)) I P O D Q) : Here X cX5_kindOf RX5 1 (some .int) 2 n 28 [some (.inl v0)] [] I P O D n Q := by
  unfold f_X5_kindOf_28 at h
  refine h_iload_n dX5_kindOf_28 rfl ?_
  by_cases q1 : v0 = (40 : Int32)
  · rw [if_pos q1] at h
    refine h_tswIn (tgt := 132) 0 dX5_kindOf_29 (by rw [q1]; decide) (by decide) rfl (by decide) ?_
    refine h_iconst (3 : Int32) dX5_kindOf_132 k_iconst_3 ?_
    cases h
    exact h_iret dX5_kindOf_133 rfl E
  · rw [if_neg q1] at h
    by_cases q2 : v0 = (41 : Int32)
    · rw [if_pos q2] at h
      refine h_tswIn (tgt := 132) 1 dX5_kindOf_29 (by rw [q2]; decide) (by decide) rfl (by decide) ?_
      refine h_iconst (3 : Int32) dX5_kindOf_132 k_iconst_3 ?_
      cases h
      exact h_iret dX5_kindOf_133 rfl E
    · rw [if_neg q2] at h
      by_cases q3 : v0 = (42 : Int32)
      · rw [if_pos q3] at h
        refine h_tswIn (tgt := 132) 2 dX5_kindOf_29 (by rw [q3]; decide) (by decide) rfl (by decide) ?_
        refine h_iconst (3 : Int32) dX5_kindOf_132 k_iconst_3 ?_
        cases h
        exact h_iret dX5_kindOf_133 rfl E
      · rw [if_neg q3] at h
        by_cases q4 : v0 = (43 : Int32)
        · rw [if_pos q4] at h
          refine h_tswIn (tgt := 132) 3 dX5_kindOf_29 (by rw [q4]; decide) (by decide) rfl (by decide) ?_
          refine h_iconst (3 : Int32) dX5_kindOf_132 k_iconst_3 ?_
          cases h
          exact h_iret dX5_kindOf_133 rfl E
        · rw [if_neg q4] at h
          by_cases q5 : v0 = (44 : Int32)
          · rw [if_pos q5] at h
            refine h_tswIn (tgt := 134) 4 dX5_kindOf_29 (by rw [q5]; decide) (by decide) rfl (by decide) ?_
            refine h_iconst (4 : Int32) dX5_kindOf_134 k_iconst_4 ?_
            cases h
            exact h_iret dX5_kindOf_135 rfl E
          · rw [if_neg q5] at h
            by_cases q6 : v0 = (45 : Int32)
            · rw [if_pos q6] at h
              refine h_tswIn (tgt := 132) 5 dX5_kindOf_29 (by rw [q6]; decide) (by decide) rfl (by decide) ?_
              refine h_iconst (3 : Int32) dX5_kindOf_132 k_iconst_3 ?_
              cases h
              exact h_iret dX5_kindOf_133 rfl E
            · rw [if_neg q6] at h
              by_cases q7 : v0 = (46 : Int32)
              · rw [if_pos q7] at h
                refine h_tswIn (tgt := 134) 6 dX5_kindOf_29 (by rw [q7]; decide) (by decide) rfl (by decide) ?_
                refine h_iconst (4 : Int32) dX5_kindOf_134 k_iconst_4 ?_
                cases h
                exact h_iret dX5_kindOf_135 rfl E
              · rw [if_neg q7] at h
                by_cases q8 : v0 = (47 : Int32)
                · rw [if_pos q8] at h
                  refine h_tswIn (tgt := 132) 7 dX5_kindOf_29 (by rw [q8]; decide) (by decide) rfl (by decide) ?_
                  refine h_iconst (3 : Int32) dX5_kindOf_132 k_iconst_3 ?_
                  cases h
                  exact h_iret dX5_kindOf_133 rfl E
                · rw [if_neg q8] at h
                  by_cases q9 : v0 = (48 : Int32)
                  · rw [if_pos q9] at h
                    refine h_tswIn (tgt := 134) 8 dX5_kindOf_29 (by rw [q9]; decide) (by decide) rfl (by decide) ?_
                    refine h_iconst (4 : Int32) dX5_kindOf_134 k_iconst_4 ?_
                    cases h
                    exact h_iret dX5_kindOf_135 rfl E
                  · rw [if_neg q9] at h
                    by_cases q10 : v0 = (49 : Int32)
                    · rw [if_pos q10] at h
                      refine h_tswIn (tgt := 134) 9 dX5_kindOf_29 (by rw [q10]; decide) (by decide) rfl (by decide) ?_
                      refine h_iconst (4 : Int32) dX5_kindOf_134 k_iconst_4 ?_
                      cases h
                      exact h_iret dX5_kindOf_135 rfl E
                    · rw [if_neg q10] at h
                      by_cases q11 : v0 = (50 : Int32)
                      · rw [if_pos q11] at h
                        refine h_tswIn (tgt := 134) 10 dX5_kindOf_29 (by rw [q11]; decide) (by decide) rfl (by decide) ?_
                        refine h_iconst (4 : Int32) dX5_kindOf_134 k_iconst_4 ?_
                        cases h
                        exact h_iret dX5_kindOf_135 rfl E
                      · rw [if_neg q11] at h
                        by_cases q12 : v0 = (51 : Int32)
                        · rw [if_pos q12] at h
                          refine h_tswIn (tgt := 134) 11 dX5_kindOf_29 (by rw [q12]; decide) (by decide) rfl (by decide) ?_
                          refine h_iconst (4 : Int32) dX5_kindOf_134 k_iconst_4 ?_
                          cases h
                          exact h_iret dX5_kindOf_135 rfl E
                        · rw [if_neg q12] at h
                          by_cases q13 : v0 = (52 : Int32)
                          · rw [if_pos q13] at h
                            refine h_tswIn (tgt := 134) 12 dX5_kindOf_29 (by rw [q13]; decide) (by decide) rfl (by decide) ?_
                            refine h_iconst (4 : Int32) dX5_kindOf_134 k_iconst_4 ?_
                            cases h
                            exact h_iret dX5_kindOf_135 rfl E
                          · rw [if_neg q13] at h
                            by_cases q14 : v0 = (53 : Int32)
                            · rw [if_pos q14] at h
                              refine h_tswIn (tgt := 134) 13 dX5_kindOf_29 (by rw [q14]; decide) (by decide) rfl (by decide) ?_
                              refine h_iconst (4 : Int32) dX5_kindOf_134 k_iconst_4 ?_
                              cases h
                              exact h_iret dX5_kindOf_135 rfl E
                            · rw [if_neg q14] at h
                              by_cases q15 : v0 = (54 : Int32)
                              · rw [if_pos q15] at h
                                refine h_tswIn (tgt := 134) 14 dX5_kindOf_29 (by rw [q15]; decide) (by decide) rfl (by decide) ?_
                                refine h_iconst (4 : Int32) dX5_kindOf_134 k_iconst_4 ?_
                                cases h
                                exact h_iret dX5_kindOf_135 rfl E
                              · rw [if_neg q15] at h
                                by_cases q16 : v0 = (55 : Int32)
                                · rw [if_pos q16] at h
                                  refine h_tswIn (tgt := 134) 15 dX5_kindOf_29 (by rw [q16]; decide) (by decide) rfl (by decide) ?_
                                  refine h_iconst (4 : Int32) dX5_kindOf_134 k_iconst_4 ?_
                                  cases h
                                  exact h_iret dX5_kindOf_135 rfl E
                                · rw [if_neg q16] at h
                                  by_cases q17 : v0 = (56 : Int32)
                                  · rw [if_pos q17] at h
                                    refine h_tswIn (tgt := 134) 16 dX5_kindOf_29 (by rw [q17]; decide) (by decide) rfl (by decide) ?_
                                    refine h_iconst (4 : Int32) dX5_kindOf_134 k_iconst_4 ?_
                                    cases h
                                    exact h_iret dX5_kindOf_135 rfl E
                                  · rw [if_neg q17] at h
                                    by_cases q18 : v0 = (57 : Int32)
                                    · rw [if_pos q18] at h
                                      refine h_tswIn (tgt := 134) 17 dX5_kindOf_29 (by rw [q18]; decide) (by decide) rfl (by decide) ?_
                                      refine h_iconst (4 : Int32) dX5_kindOf_134 k_iconst_4 ?_
                                      cases h
                                      exact h_iret dX5_kindOf_135 rfl E
                                    · rw [if_neg q18] at h
                                      by_cases q19 : v0 = (58 : Int32)
                                      · rw [if_pos q19] at h
                                        refine h_tswIn (tgt := 134) 18 dX5_kindOf_29 (by rw [q19]; decide) (by decide) rfl (by decide) ?_
                                        refine h_iconst (4 : Int32) dX5_kindOf_134 k_iconst_4 ?_
                                        cases h
                                        exact h_iret dX5_kindOf_135 rfl E
                                      · rw [if_neg q19] at h
                                        by_cases q20 : v0 = (59 : Int32)
                                        · rw [if_pos q20] at h
                                          refine h_tswIn (tgt := 132) 19 dX5_kindOf_29 (by rw [q20]; decide) (by decide) rfl (by decide) ?_
                                          refine h_iconst (3 : Int32) dX5_kindOf_132 k_iconst_3 ?_
                                          cases h
                                          exact h_iret dX5_kindOf_133 rfl E
                                        · rw [if_neg q20] at h
                                          by_cases q21 : v0 = (60 : Int32)
                                          · rw [if_pos q21] at h
                                            refine h_tswIn (tgt := 132) 20 dX5_kindOf_29 (by rw [q21]; decide) (by decide) rfl (by decide) ?_
                                            refine h_iconst (3 : Int32) dX5_kindOf_132 k_iconst_3 ?_
                                            cases h
                                            exact h_iret dX5_kindOf_133 rfl E
                                          · rw [if_neg q21] at h
                                            by_cases q22 : v0 = (61 : Int32)
                                            · rw [if_pos q22] at h
                                              refine h_tswIn (tgt := 132) 21 dX5_kindOf_29 (by rw [q22]; decide) (by decide) rfl (by decide) ?_
                                              refine h_iconst (3 : Int32) dX5_kindOf_132 k_iconst_3 ?_
                                              cases h
                                              exact h_iret dX5_kindOf_133 rfl E
                                            · rw [if_neg q22] at h
                                              refine h_tswOut (tgt := 134) dX5_kindOf_29 ?_ (by decide) ?_
                                              · have n0 : v0.toInt ≠ 40 := fun e => q1 (Int32.toInt_inj.mp (e.trans (by decide)))
                                                have n1 : v0.toInt ≠ 41 := fun e => q2 (Int32.toInt_inj.mp (e.trans (by decide)))
                                                have n2 : v0.toInt ≠ 42 := fun e => q3 (Int32.toInt_inj.mp (e.trans (by decide)))
                                                have n3 : v0.toInt ≠ 43 := fun e => q4 (Int32.toInt_inj.mp (e.trans (by decide)))
                                                have n4 : v0.toInt ≠ 44 := fun e => q5 (Int32.toInt_inj.mp (e.trans (by decide)))
                                                have n5 : v0.toInt ≠ 45 := fun e => q6 (Int32.toInt_inj.mp (e.trans (by decide)))
                                                have n6 : v0.toInt ≠ 46 := fun e => q7 (Int32.toInt_inj.mp (e.trans (by decide)))
                                                have n7 : v0.toInt ≠ 47 := fun e => q8 (Int32.toInt_inj.mp (e.trans (by decide)))
                                                have n8 : v0.toInt ≠ 48 := fun e => q9 (Int32.toInt_inj.mp (e.trans (by decide)))
                                                have n9 : v0.toInt ≠ 49 := fun e => q10 (Int32.toInt_inj.mp (e.trans (by decide)))
                                                have n10 : v0.toInt ≠ 50 := fun e => q11 (Int32.toInt_inj.mp (e.trans (by decide)))
                                                have n11 : v0.toInt ≠ 51 := fun e => q12 (Int32.toInt_inj.mp (e.trans (by decide)))
                                                have n12 : v0.toInt ≠ 52 := fun e => q13 (Int32.toInt_inj.mp (e.trans (by decide)))
                                                have n13 : v0.toInt ≠ 53 := fun e => q14 (Int32.toInt_inj.mp (e.trans (by decide)))
                                                have n14 : v0.toInt ≠ 54 := fun e => q15 (Int32.toInt_inj.mp (e.trans (by decide)))
                                                have n15 : v0.toInt ≠ 55 := fun e => q16 (Int32.toInt_inj.mp (e.trans (by decide)))
                                                have n16 : v0.toInt ≠ 56 := fun e => q17 (Int32.toInt_inj.mp (e.trans (by decide)))
                                                have n17 : v0.toInt ≠ 57 := fun e => q18 (Int32.toInt_inj.mp (e.trans (by decide)))
                                                have n18 : v0.toInt ≠ 58 := fun e => q19 (Int32.toInt_inj.mp (e.trans (by decide)))
                                                have n19 : v0.toInt ≠ 59 := fun e => q20 (Int32.toInt_inj.mp (e.trans (by decide)))
                                                have n20 : v0.toInt ≠ 60 := fun e => q21 (Int32.toInt_inj.mp (e.trans (by decide)))
                                                have n21 : v0.toInt ≠ 61 := fun e => q22 (Int32.toInt_inj.mp (e.trans (by decide)))
                                                omega
                                              · refine h_iconst (4 : Int32) dX5_kindOf_134 k_iconst_4 ?_
                                                cases h
                                                exact h_iret dX5_kindOf_135 rfl E
def f_X5_kindOf_14  (I : Mem) (v0 : Int32) : Option (Int32) :=
  if v0 < (48 : Int32) then (f_X5_kindOf_28 I v0) else (if (57 : Int32) < v0 then (f_X5_kindOf_28 I v0) else (some (2 : Int32)))
theorem b_X5_kindOf_14 (X : CX) (Q : State → Prop) {I : Mem} {P : PMem} {O : Nat → Int64} {D : Bool} {n : Nat} {v0 : Int32} {r : (Int32)}  (h : f_X5_kindOf_14 I v0 = some r) (E : EndR X cX5_kindOf RX5 1 (some .int) 2 n (some (.inl r)) I P O D Q) : Here X cX5_kindOf RX5 1 (some .int) 2 n 14 [some (.inl v0)] [] I P O D n Q := by
  unfold f_X5_kindOf_14 at h
  refine h_iload_n dX5_kindOf_14 rfl ?_
  refine h_bipush (48 : Int32) dX5_kindOf_15 k_bipush_48 ?_
  refine h_icmp_lt (tgt := 28) dX5_kindOf_17 (by decide) (fun q1 => ?_) (fun q1 => ?_)
  · rw [if_pos q1] at h
    exact (b_X5_kindOf_28 X Q  h E)
  · rw [if_neg q1] at h
    refine h_iload_n dX5_kindOf_20 rfl ?_
    refine h_bipush (57 : Int32) dX5_kindOf_21 k_bipush_57 ?_
    refine h_icmp_gt (tgt := 28) dX5_kindOf_23 (by decide) (fun q2 => ?_) (fun q2 => ?_)
    · rw [if_pos q2] at h
      exact (b_X5_kindOf_28 X Q  h E)
    · rw [if_neg q2] at h
      refine h_iconst (2 : Int32) dX5_kindOf_26 k_iconst_2 ?_
      cases h
      exact h_iret dX5_kindOf_27 rfl E
def f_X5_kindOf  (I : Mem) (v0 : Int32) : Option (Int32) :=
  if v0 < (97 : Int32) then (f_X5_kindOf_14 I v0) else (if (122 : Int32) < v0 then (f_X5_kindOf_14 I v0) else (some (1 : Int32)))
theorem b_X5_kindOf (X : CX) (Q : State → Prop) {I : Mem} {P : PMem} {O : Nat → Int64} {D : Bool} {n : Nat} {v0 : Int32} {r : (Int32)}  (h : f_X5_kindOf I v0 = some r) (E : EndR X cX5_kindOf RX5 1 (some .int) 2 n (some (.inl r)) I P O D Q) : Here X cX5_kindOf RX5 1 (some .int) 2 n 0 [some (.inl v0)] [] I P O D n Q := by
  unfold f_X5_kindOf at h
  refine h_iload_n dX5_kindOf_0 rfl ?_
  refine h_bipush (97 : Int32) dX5_kindOf_1 k_bipush_97 ?_
  refine h_icmp_lt (tgt := 14) dX5_kindOf_3 (by decide) (fun q1 => ?_) (fun q1 => ?_)
  · rw [if_pos q1] at h
    exact (b_X5_kindOf_14 X Q  h E)
  · rw [if_neg q1] at h
    refine h_iload_n dX5_kindOf_6 rfl ?_
    refine h_bipush (122 : Int32) dX5_kindOf_7 k_bipush_122 ?_
    refine h_icmp_gt (tgt := 14) dX5_kindOf_9 (by decide) (fun q2 => ?_) (fun q2 => ?_)
    · rw [if_pos q2] at h
      exact (b_X5_kindOf_14 X Q  h E)
    · rw [if_neg q2] at h
      refine h_iconst (1 : Int32) dX5_kindOf_12 k_iconst_1 ?_
      cases h
      exact h_iret dX5_kindOf_13 rfl E
theorem m_X5_kindOf {I : Mem} {P : PMem} {O : Nat → Int64} {D : Bool} {n : Nat} {v0 : Int32} {r : (Int32)}  (h : f_X5_kindOf I v0 = some r) : MethR yX5_kindOf cX5_kindOf 1 (some .int) 2 [.inl v0] I P O D n (some (.inl r)) I P O D n := meth_R (Nat.le_refl _) (by decide) rfl (Nat.le_of_ble_eq_true rfl) rfl (fun X Q E => b_X5_kindOf X Q  h E)
def f_X5_advance_143 (k116 : Mem → Option (Mem))  (I : Mem) : Option (Mem) :=
  gd (inb (I 5 0 0 7) 600) <|
  (f_X5_kindOf I (I 47 0 0 ((I 5 0 0 7).toNatClampNeg))).bind fun y1 =>
  if y1 = (I 5 0 0 5) then (bnd (upd4 I 5 0 0 7 ((I 5 0 0 7) + (1 : Int32))) fun I1' =>
  k116 I1') else (some I)
theorem b_X5_advance_143 (X : CX) (Q : State → Prop) {I : Mem} {P : PMem} {O : Nat → Int64} {D : Bool} {n : Nat} {k116 : Mem → Option (Mem)} {r : (Mem)}  (H116 : ∀ (I : Mem), k116 I = some r → Here X cX5_advance RX5 1 (none) 3 n 116 [some (.inr (.inr (5, 0, 0)))] [] I P O D n Q) (h : f_X5_advance_143 k116 I = some r) (E : EndR X cX5_advance RX5 1 (none) 3 n none r P O D Q) : Here X cX5_advance RX5 1 (none) 3 n 143 [some (.inr (.inr (5, 0, 0)))] [] I P O D n Q := by
  unfold f_X5_advance_143 at h
  refine h_aload_n dX5_advance_143 rfl ?_
  refine g_X5_15  dX5_advance_144 ?_
  refine h_aload_n dX5_advance_147 rfl ?_
  refine g_X5_40  dX5_advance_148 ?_
  obtain ⟨g1, h⟩ := gd_some h
  refine al_47  ((I 5 0 0 7).toNatClampNeg) rfl dX5_advance_151 g1 ?_
  obtain ⟨y1, hh1, h⟩ := obd_some h
  refine h_cSi [.inl (I 47 0 0 ((I 5 0 0 7).toNatClampNeg))] (m_X5_kindOf  hh1) cs_X5_227 dX5_advance_152 rfl (by decide) rfl (Or.inr rfl) rfl ?_
  refine h_aload_n dX5_advance_155 rfl ?_
  refine g_X5_46  dX5_advance_156 ?_
  refine h_icmp_ne (tgt := 175) dX5_advance_159 (by decide) (fun q1 => ?_) (fun q1 => ?_)
  · rw [if_neg q1] at h
    cases h
    exact h_vret dX5_advance_175 rfl E
  · rw [if_pos q1] at h
    refine h_aload_n dX5_advance_162 rfl ?_
    refine h_dup dX5_advance_163 (fun _ => rfl) ?_
    refine g_X5_40  dX5_advance_164 ?_
    refine h_iconst (1 : Int32) dX5_advance_167 k_iconst_1 ?_
    refine h_iadd dX5_advance_168 ?_
    obtain ⟨I1', e1, h⟩ := bnd_some h
    refine p_X5_40  dX5_advance_169 ?_
    refine h_nmI e1 ?_
    refine h_goto (tgt := 116) dX5_advance_172 (by decide) ?_
    exact (H116 _ h)
def f_X5_advance_116   : Nat → Mem → Option (Mem)
  | 0, _ => none
  | fu + 1, I =>
    if (I 5 0 0 3) ≤ (I 5 0 0 7) then (some I) else (if (I 5 0 0 5) = (1 : Int32) then (f_X5_advance_143 (f_X5_advance_116 fu) I) else (if (I 5 0 0 5) = (2 : Int32) then (f_X5_advance_143 (f_X5_advance_116 fu) I) else (some I)))
theorem b_X5_advance_116 (X : CX) (Q : State → Prop) {P : PMem} {O : Nat → Int64} {D : Bool} {n : Nat} {r : (Mem)}  : ∀ (fu : Nat) {I : Mem}, f_X5_advance_116 fu I = some r → EndR X cX5_advance RX5 1 (none) 3 n none r P O D Q → Here X cX5_advance RX5 1 (none) 3 n 116 [some (.inr (.inr (5, 0, 0)))] [] I P O D n Q := by
  intro fu
  induction fu with
  | zero => intro I h E; cases h
  | succ fu ih =>
  intro I h E
  have H116 : ∀ (I : Mem), f_X5_advance_116 fu I = some r → Here X cX5_advance RX5 1 (none) 3 n 116 [some (.inr (.inr (5, 0, 0)))] [] I P O D n Q := fun _ b => ih b E
  simp only [f_X5_advance_116] at h
  refine h_aload_n dX5_advance_116 rfl ?_
  refine g_X5_40  dX5_advance_117 ?_
  refine h_aload_n dX5_advance_120 rfl ?_
  refine g_X5_29  dX5_advance_121 ?_
  refine h_icmp_ge (tgt := 175) dX5_advance_124 (by decide) (fun q1 => ?_) (fun q1 => ?_)
  · rw [if_pos q1] at h
    cases h
    exact h_vret dX5_advance_175 rfl E
  · rw [if_neg q1] at h
    refine h_aload_n dX5_advance_127 rfl ?_
    refine g_X5_46  dX5_advance_128 ?_
    refine h_iconst (1 : Int32) dX5_advance_131 k_iconst_1 ?_
    refine h_icmp_eq (tgt := 143) dX5_advance_132 (by decide) (fun q2 => ?_) (fun q2 => ?_)
    · rw [if_pos q2] at h
      exact (b_X5_advance_143 X Q H116  h E)
    · rw [if_neg q2] at h
      refine h_aload_n dX5_advance_135 rfl ?_
      refine g_X5_46  dX5_advance_136 ?_
      refine h_iconst (2 : Int32) dX5_advance_139 k_iconst_2 ?_
      refine h_icmp_ne (tgt := 175) dX5_advance_140 (by decide) (fun q3 => ?_) (fun q3 => ?_)
      · rw [if_neg q3] at h
        cases h
        exact h_vret dX5_advance_175 rfl E
      · rw [if_pos q3] at h
        exact (b_X5_advance_143 X Q H116  h E)
def f_X5_advance_96   (I : Mem) (s0 : Int32) : Option (Mem) :=
  bnd (upd4 I 5 0 0 5 s0) fun I1' =>
  bnd (upd4 I1' 5 0 0 7 (jmin ((I1' 5 0 0 6) + (1 : Int32)) (I1' 5 0 0 3))) fun I2' =>
  f_X5_advance_116 FU I2'
theorem b_X5_advance_96 (X : CX) (Q : State → Prop) {I : Mem} {P : PMem} {O : Nat → Int64} {D : Bool} {n : Nat} {s0 : Int32} {r : (Mem)}  (h : f_X5_advance_96 I s0 = some r) (E : EndR X cX5_advance RX5 1 (none) 3 n none r P O D Q) : Here X cX5_advance RX5 1 (none) 3 n 96 [some (.inr (.inr (5, 0, 0)))] [.inl s0, .inr (.inr (5, 0, 0))] I P O D n Q := by
  unfold f_X5_advance_96 at h
  obtain ⟨I1', e1, h⟩ := bnd_some h
  refine p_X5_46  dX5_advance_96 ?_
  refine h_nmI e1 ?_
  refine h_aload_n dX5_advance_99 rfl ?_
  refine h_aload_n dX5_advance_100 rfl ?_
  refine g_X5_216  dX5_advance_101 ?_
  refine h_iconst (1 : Int32) dX5_advance_104 k_iconst_1 ?_
  refine h_iadd dX5_advance_105 ?_
  refine h_aload_n dX5_advance_106 rfl ?_
  refine g_X5_29  dX5_advance_107 ?_
  refine h_min dX5_advance_110 ml_X5_23 wm1_min wm2 wm3_min (by decide) rfl ?_
  obtain ⟨I2', e2, h⟩ := bnd_some h
  refine p_X5_40  dX5_advance_113 ?_
  refine h_nmI e2 ?_
  exact (b_X5_advance_116 X Q FU  h E)
def f_X5_advance_68   (I : Mem) : Option (Mem) :=
  if (I 5 0 0 3) ≤ (I 5 0 0 6) then (f_X5_advance_96 I (0 : Int32)) else (gd (inb (I 5 0 0 6) 600) <|
  (f_X5_kindOf I (I 47 0 0 ((I 5 0 0 6).toNatClampNeg))).bind fun y1 =>
  f_X5_advance_96 I y1)
theorem b_X5_advance_68 (X : CX) (Q : State → Prop) {I : Mem} {P : PMem} {O : Nat → Int64} {D : Bool} {n : Nat} {r : (Mem)}  (h : f_X5_advance_68 I = some r) (E : EndR X cX5_advance RX5 1 (none) 3 n none r P O D Q) : Here X cX5_advance RX5 1 (none) 3 n 68 [some (.inr (.inr (5, 0, 0)))] [] I P O D n Q := by
  unfold f_X5_advance_68 at h
  refine h_aload_n dX5_advance_68 rfl ?_
  refine h_aload_n dX5_advance_69 rfl ?_
  refine g_X5_216  dX5_advance_70 ?_
  refine h_aload_n dX5_advance_73 rfl ?_
  refine g_X5_29  dX5_advance_74 ?_
  refine h_icmp_ge (tgt := 95) dX5_advance_77 (by decide) (fun q1 => ?_) (fun q1 => ?_)
  · rw [if_pos q1] at h
    refine h_iconst (0 : Int32) dX5_advance_95 k_iconst_0 ?_
    exact (b_X5_advance_96 X Q  h E)
  · rw [if_neg q1] at h
    refine h_aload_n dX5_advance_80 rfl ?_
    refine g_X5_15  dX5_advance_81 ?_
    refine h_aload_n dX5_advance_84 rfl ?_
    refine g_X5_216  dX5_advance_85 ?_
    obtain ⟨g1, h⟩ := gd_some h
    refine al_47  ((I 5 0 0 6).toNatClampNeg) rfl dX5_advance_88 g1 ?_
    obtain ⟨y1, hh1, h⟩ := obd_some h
    refine h_cSi [.inl (I 47 0 0 ((I 5 0 0 6).toNatClampNeg))] (m_X5_kindOf  hh1) cs_X5_227 dX5_advance_89 rfl (by decide) rfl (Or.inr rfl) rfl ?_
    refine h_goto (tgt := 96) dX5_advance_92 (by decide) ?_
    exact (b_X5_advance_96 X Q  h E)
def f_X5_advance_16   : Nat → Mem → Option (Mem)
  | 0, _ => none
  | fu + 1, I =>
    if (I 5 0 0 3) ≤ (I 5 0 0 6) then (f_X5_advance_68 I) else (gd (inb (I 5 0 0 6) 600) <|
    if (I 47 0 0 ((I 5 0 0 6).toNatClampNeg)) = (32 : Int32) then (bnd (upd4 I 5 0 0 6 ((I 5 0 0 6) + (1 : Int32))) fun I1' =>
    (f_X5_advance_16 fu) I1') else (if (I 47 0 0 ((I 5 0 0 6).toNatClampNeg)) = (10 : Int32) then (bnd (upd4 I 5 0 0 6 ((I 5 0 0 6) + (1 : Int32))) fun I2' =>
    (f_X5_advance_16 fu) I2') else (f_X5_advance_68 I)))
theorem b_X5_advance_16 (X : CX) (Q : State → Prop) {P : PMem} {O : Nat → Int64} {D : Bool} {n : Nat} {r : (Mem)}  : ∀ (fu : Nat) {I : Mem}, f_X5_advance_16 fu I = some r → EndR X cX5_advance RX5 1 (none) 3 n none r P O D Q → Here X cX5_advance RX5 1 (none) 3 n 16 [some (.inr (.inr (5, 0, 0)))] [] I P O D n Q := by
  intro fu
  induction fu with
  | zero => intro I h E; cases h
  | succ fu ih =>
  intro I h E
  have H16 : ∀ (I : Mem), f_X5_advance_16 fu I = some r → Here X cX5_advance RX5 1 (none) 3 n 16 [some (.inr (.inr (5, 0, 0)))] [] I P O D n Q := fun _ b => ih b E
  simp only [f_X5_advance_16] at h
  refine h_aload_n dX5_advance_16 rfl ?_
  refine g_X5_216  dX5_advance_17 ?_
  refine h_aload_n dX5_advance_20 rfl ?_
  refine g_X5_29  dX5_advance_21 ?_
  refine h_icmp_ge (tgt := 68) dX5_advance_24 (by decide) (fun q1 => ?_) (fun q1 => ?_)
  · rw [if_pos q1] at h
    exact (b_X5_advance_68 X Q  h E)
  · rw [if_neg q1] at h
    refine h_aload_n dX5_advance_27 rfl ?_
    refine g_X5_15  dX5_advance_28 ?_
    refine h_aload_n dX5_advance_31 rfl ?_
    refine g_X5_216  dX5_advance_32 ?_
    obtain ⟨g1, h⟩ := gd_some h
    refine al_47  ((I 5 0 0 6).toNatClampNeg) rfl dX5_advance_35 g1 ?_
    refine h_bipush (32 : Int32) dX5_advance_36 k_bipush_32 ?_
    refine h_icmp_eq (tgt := 55) dX5_advance_38 (by decide) (fun q2 => ?_) (fun q2 => ?_)
    · rw [if_pos q2] at h
      refine h_aload_n dX5_advance_55 rfl ?_
      refine h_dup dX5_advance_56 (fun _ => rfl) ?_
      refine g_X5_216  dX5_advance_57 ?_
      refine h_iconst (1 : Int32) dX5_advance_60 k_iconst_1 ?_
      refine h_iadd dX5_advance_61 ?_
      obtain ⟨I1', e1, h⟩ := bnd_some h
      refine p_X5_216  dX5_advance_62 ?_
      refine h_nmI e1 ?_
      refine h_goto (tgt := 16) dX5_advance_65 (by decide) ?_
      exact (H16 _ h)
    · rw [if_neg q2] at h
      refine h_aload_n dX5_advance_41 rfl ?_
      refine g_X5_15  dX5_advance_42 ?_
      refine h_aload_n dX5_advance_45 rfl ?_
      refine g_X5_216  dX5_advance_46 ?_
      refine al_47  ((I 5 0 0 6).toNatClampNeg) rfl dX5_advance_49 g1 ?_
      refine h_bipush (10 : Int32) dX5_advance_50 k_bipush_10 ?_
      refine h_icmp_ne (tgt := 68) dX5_advance_52 (by decide) (fun q3 => ?_) (fun q3 => ?_)
      · rw [if_neg q3] at h
        exact (b_X5_advance_68 X Q  h E)
      · rw [if_pos q3] at h
        refine h_aload_n dX5_advance_55 rfl ?_
        refine h_dup dX5_advance_56 (fun _ => rfl) ?_
        refine g_X5_216  dX5_advance_57 ?_
        refine h_iconst (1 : Int32) dX5_advance_60 k_iconst_1 ?_
        refine h_iadd dX5_advance_61 ?_
        obtain ⟨I2', e2, h⟩ := bnd_some h
        refine p_X5_216  dX5_advance_62 ?_
        refine h_nmI e2 ?_
        refine h_goto (tgt := 16) dX5_advance_65 (by decide) ?_
        exact (H16 _ h)
def f_X5_advance   (I : Mem) : Option (Mem) :=
  if (I 5 0 0 0) = 0 then (bnd (upd4 I 5 0 0 6 (I 5 0 0 7)) fun I1' =>
  f_X5_advance_16 FU I1') else (some I)
theorem b_X5_advance (X : CX) (Q : State → Prop) {I : Mem} {P : PMem} {O : Nat → Int64} {D : Bool} {n : Nat} {r : (Mem)}  (h : f_X5_advance I = some r) (E : EndR X cX5_advance RX5 1 (none) 3 n none r P O D Q) : Here X cX5_advance RX5 1 (none) 3 n 0 [some (.inr (.inr (5, 0, 0)))] [] I P O D n Q := by
  unfold f_X5_advance at h
  refine h_aload_n dX5_advance_0 rfl ?_
  refine g_X5_37  dX5_advance_1 ?_
  refine h_if_eq (tgt := 8) dX5_advance_4 (by decide) (fun q1 => ?_) (fun q1 => ?_)
  · rw [if_pos q1] at h
    refine h_aload_n dX5_advance_8 rfl ?_
    refine h_aload_n dX5_advance_9 rfl ?_
    refine g_X5_40  dX5_advance_10 ?_
    obtain ⟨I1', e1, h⟩ := bnd_some h
    refine p_X5_216  dX5_advance_13 ?_
    refine h_nmI e1 ?_
    exact (b_X5_advance_16 X Q FU  h E)
  · rw [if_neg q1] at h
    cases h
    exact h_vret dX5_advance_7 rfl E
theorem m_X5_advance {I : Mem} {P : PMem} {O : Nat → Int64} {D : Bool} {n : Nat}  {r : (Mem)}  (h : f_X5_advance I = some r) : MethR yX5_advance cX5_advance 1 (none) 3 [.inr (.inr (5, 0, 0))] I P O D n none r P O D n := meth_R (Nat.le_refl _) (by decide) rfl (Nat.le_of_ble_eq_true rfl) rfl (fun X Q E => b_X5_advance X Q  h E)
def f_X5_isWord_28  (I : Mem) (z1 : Nat) : Nat → Int32 → Option (Int32)
  | 0, _ => none
  | fu + 1, v2 =>
    if (slen z1) ≤ v2 then (some (1 : Int32)) else (gd (inb ((I 5 0 0 6) + v2) 600) <|
    gd (inb v2 (strL.getD z1 0)) <|
    if (I 47 0 0 (((I 5 0 0 6) + v2).toNatClampNeg)) = (schr z1 v2.toNatClampNeg) then ((f_X5_isWord_28 I z1 fu) (v2 + (1 : Int32))) else (some (0 : Int32)))
theorem b_X5_isWord_28 (X : CX) (Q : State → Prop) {I : Mem} {P : PMem} {O : Nat → Int64} {D : Bool} {n : Nat} {z1 : Nat} {r : (Int32)}  (hz1 : z1 < nStr) : ∀ (fu : Nat) {v2 : Int32}, f_X5_isWord_28 I z1 fu v2 = some r → EndR X cX5_isWord RX5 3 (some .boolean) 9 n (some (.inl r)) I P O D Q → Here X cX5_isWord RX5 3 (some .boolean) 9 n 28 [some (.inr (.inr (5, 0, 0))), some (.inr (.inr (90, z1, 0))), some (.inl v2)] [] I P O D n Q := by
  intro fu
  induction fu with
  | zero => intro v2 h E; cases h
  | succ fu ih =>
  intro v2 h E
  have H28 : ∀ (v2 : Int32), f_X5_isWord_28 I z1 fu v2 = some r → Here X cX5_isWord RX5 3 (some .boolean) 9 n 28 [some (.inr (.inr (5, 0, 0))), some (.inr (.inr (90, z1, 0))), some (.inl v2)] [] I P O D n Q := fun _ b => ih b E
  simp only [f_X5_isWord_28] at h
  refine h_iload_n dX5_isWord_28 rfl ?_
  refine h_aload_n dX5_isWord_29 rfl ?_
  refine h_slen (by assumption) cz_X5_219 dX5_isWord_30 (by decide) rfl ?_
  refine h_icmp_ge (tgt := 63) dX5_isWord_33 (by decide) (fun q1 => ?_) (fun q1 => ?_)
  · rw [if_pos q1] at h
    refine h_iconst (1 : Int32) dX5_isWord_63 k_iconst_1 ?_
    cases h
    exact h_zret dX5_isWord_64 rfl rfl E
  · rw [if_neg q1] at h
    refine h_aload_n dX5_isWord_36 rfl ?_
    refine g_X5_15  dX5_isWord_37 ?_
    refine h_aload_n dX5_isWord_40 rfl ?_
    refine g_X5_216  dX5_isWord_41 ?_
    refine h_iload_n dX5_isWord_44 rfl ?_
    refine h_iadd dX5_isWord_45 ?_
    obtain ⟨g1, h⟩ := gd_some h
    refine al_47  (((I 5 0 0 6) + v2).toNatClampNeg) rfl dX5_isWord_46 g1 ?_
    refine h_aload_n dX5_isWord_47 rfl ?_
    refine h_iload_n dX5_isWord_48 rfl ?_
    obtain ⟨g2, h⟩ := gd_some h
    refine h_schr (by assumption) cz_X5_223 dX5_isWord_49 g2 (by decide) rfl ?_
    refine h_icmp_eq (tgt := 57) dX5_isWord_52 (by decide) (fun q2 => ?_) (fun q2 => ?_)
    · rw [if_pos q2] at h
      refine h_iinc (1 : Int32) dX5_isWord_57 rfl k_iinc_1 (by decide) rfl ?_
      refine h_goto (tgt := 28) dX5_isWord_60 (by decide) ?_
      exact (H28 _ h)
    · rw [if_neg q2] at h
      refine h_iconst (0 : Int32) dX5_isWord_55 k_iconst_0 ?_
      cases h
      exact h_zret dX5_isWord_56 rfl rfl E
def f_X5_isWord  (I : Mem) (z1 : Nat)  : Option (Int32) :=
  if (I 5 0 0 5) = (1 : Int32) then (if ((I 5 0 0 7) - (I 5 0 0 6)) = (slen z1) then (f_X5_isWord_28 I z1 FU (0 : Int32)) else (some (0 : Int32))) else (some (0 : Int32))
theorem b_X5_isWord (X : CX) (Q : State → Prop) {I : Mem} {P : PMem} {O : Nat → Int64} {D : Bool} {n : Nat} {z1 : Nat} {r : (Int32)}  (hz1 : z1 < nStr) (h : f_X5_isWord I z1 = some r) (E : EndR X cX5_isWord RX5 3 (some .boolean) 9 n (some (.inl r)) I P O D Q) : Here X cX5_isWord RX5 3 (some .boolean) 9 n 0 [some (.inr (.inr (5, 0, 0))), some (.inr (.inr (90, z1, 0))), none] [] I P O D n Q := by
  unfold f_X5_isWord at h
  refine h_aload_n dX5_isWord_0 rfl ?_
  refine g_X5_46  dX5_isWord_1 ?_
  refine h_iconst (1 : Int32) dX5_isWord_4 k_iconst_1 ?_
  refine h_icmp_ne (tgt := 24) dX5_isWord_5 (by decide) (fun q1 => ?_) (fun q1 => ?_)
  · rw [if_neg q1] at h
    refine h_iconst (0 : Int32) dX5_isWord_24 k_iconst_0 ?_
    cases h
    exact h_zret dX5_isWord_25 rfl rfl E
  · rw [if_pos q1] at h
    refine h_aload_n dX5_isWord_8 rfl ?_
    refine g_X5_40  dX5_isWord_9 ?_
    refine h_aload_n dX5_isWord_12 rfl ?_
    refine g_X5_216  dX5_isWord_13 ?_
    refine h_isub dX5_isWord_16 ?_
    refine h_aload_n dX5_isWord_17 rfl ?_
    refine h_slen (by assumption) cz_X5_219 dX5_isWord_18 (by decide) rfl ?_
    refine h_icmp_eq (tgt := 26) dX5_isWord_21 (by decide) (fun q2 => ?_) (fun q2 => ?_)
    · rw [if_pos q2] at h
      refine h_iconst (0 : Int32) dX5_isWord_26 k_iconst_0 ?_
      refine h_istore_n dX5_isWord_27 (by decide) rfl ?_
      exact (b_X5_isWord_28 X Q hz1 FU  h E)
    · rw [if_neg q2] at h
      refine h_iconst (0 : Int32) dX5_isWord_24 k_iconst_0 ?_
      cases h
      exact h_zret dX5_isWord_25 rfl rfl E
theorem m_X5_isWord {I : Mem} {P : PMem} {O : Nat → Int64} {D : Bool} {n : Nat} {z1 : Nat} {r : (Int32)} (hz1 : z1 < nStr) (h : f_X5_isWord I z1 = some r) : MethR yX5_isWord cX5_isWord 3 (some .boolean) 9 [.inr (.inr (5, 0, 0)), .inr (.inr (90, z1, 0))] I P O D n (some (.inl r)) I P O D n := meth_R (Nat.le_refl _) (by decide) rfl (Nat.le_of_ble_eq_true rfl) rfl (fun X Q E => b_X5_isWord X Q hz1 h E)
def f_X5_refuse   (I : Mem) (v1 : Int32) : Option (Mem) :=
  if (I 5 0 0 0) = 0 then (bnd (upd4 I 5 0 0 0 v1) fun I1' =>
  bnd (upd4 I1' 5 0 0 1 (I1' 5 0 0 6)) fun I2' =>
  bnd (upd4 I2' 5 0 0 5 (4 : Int32)) fun I3' =>
  some I3') else (some I)
theorem b_X5_refuse (X : CX) (Q : State → Prop) {I : Mem} {P : PMem} {O : Nat → Int64} {D : Bool} {n : Nat} {v1 : Int32} {r : (Mem)}  (h : f_X5_refuse I v1 = some r) (E : EndR X cX5_refuse RX5 2 (none) 2 n none r P O D Q) : Here X cX5_refuse RX5 2 (none) 2 n 0 [some (.inr (.inr (5, 0, 0))), some (.inl v1)] [] I P O D n Q := by
  unfold f_X5_refuse at h
  refine h_aload_n dX5_refuse_0 rfl ?_
  refine g_X5_37  dX5_refuse_1 ?_
  refine h_if_ne (tgt := 25) dX5_refuse_4 (by decide) (fun q1 => ?_) (fun q1 => ?_)
  · rw [if_neg q1] at h
    cases h
    exact h_vret dX5_refuse_25 rfl E
  · rw [if_pos q1] at h
    refine h_aload_n dX5_refuse_7 rfl ?_
    refine h_iload_n dX5_refuse_8 rfl ?_
    obtain ⟨I1', e1, h⟩ := bnd_some h
    refine p_X5_37  dX5_refuse_9 ?_
    refine h_nmI e1 ?_
    refine h_aload_n dX5_refuse_12 rfl ?_
    refine h_aload_n dX5_refuse_13 rfl ?_
    refine g_X5_216  dX5_refuse_14 ?_
    obtain ⟨I2', e2, h⟩ := bnd_some h
    refine p_X5_9  dX5_refuse_17 ?_
    refine h_nmI e2 ?_
    refine h_aload_n dX5_refuse_20 rfl ?_
    refine h_iconst (4 : Int32) dX5_refuse_21 k_iconst_4 ?_
    obtain ⟨I3', e3, h⟩ := bnd_some h
    refine p_X5_46  dX5_refuse_22 ?_
    refine h_nmI e3 ?_
    cases h
    exact h_vret dX5_refuse_25 rfl E
theorem m_X5_refuse {I : Mem} {P : PMem} {O : Nat → Int64} {D : Bool} {n : Nat} {v1 : Int32} {r : (Mem)}  (h : f_X5_refuse I v1 = some r) : MethR yX5_refuse cX5_refuse 2 (none) 2 [.inr (.inr (5, 0, 0)), .inl v1] I P O D n none r P O D n := meth_R (Nat.le_refl _) (by decide) rfl (Nat.le_of_ble_eq_true rfl) rfl (fun X Q E => b_X5_refuse X Q  h E)
def f_X5_readTown_56  (P : PMem) (I : Mem) : Option (Mem) :=
  gd (decide ((P 5 0 0 4) < 2)) <|
  bnd (upd4 I 3 (P 5 0 0 4) 0 0 ((I 3 (P 5 0 0 4) 0 0) + (1 : Int32))) fun I1' =>
  some I1'
theorem b_X5_readTown_56 (X : CX) (Q : State → Prop) {I : Mem} {P : PMem} {O : Nat → Int64} {D : Bool} {n : Nat} {r : (Mem)}  (h : f_X5_readTown_56 P I = some r) (E : EndR X cX5_readTown RX5 1 (none) 10 n none r P O D Q) : Here X cX5_readTown RX5 1 (none) 10 n 56 [some (.inr (.inr (5, 0, 0)))] [] I P O D n Q := by
  unfold f_X5_readTown_56 at h
  refine h_aload_n dX5_readTown_56 rfl ?_
  refine g_X5_19  dX5_readTown_57 ?_
  obtain ⟨g1, h⟩ := gd_some h
  have w1 := of_decide_eq_true g1
  refine h_dup dX5_readTown_60 (fun _ => rfl) ?_
  refine g_X5_101 (by omega) dX5_readTown_61 ?_
  refine h_iconst (1 : Int32) dX5_readTown_64 k_iconst_1 ?_
  refine h_iadd dX5_readTown_65 ?_
  obtain ⟨I1', e1, h⟩ := bnd_some h
  refine p_X5_101 (by omega) dX5_readTown_66 ?_
  refine h_nmI e1 ?_
  cases h
  exact h_vret dX5_readTown_69 rfl E
def f_X5_readTown  (P : PMem) (I : Mem) : Option (Mem) :=
  gd (decide ((P 5 0 0 4) < 2)) <|
  if (I 3 (P 5 0 0 4) 0 0) < (9 : Int32) then ((f_X5_advance I).bind fun y1 =>
  (f_X5_isWord y1 12).bind fun y2 =>
  if y2 = 0 then (f_X5_readTown_56 P y1) else (bnd (upd4 y1 3 (P 5 0 0 4) 0 1 ((y1 3 (P 5 0 0 4) 0 1) ||| (jshl (1 : Int32) (y1 3 (P 5 0 0 4) 0 0)))) fun I1' =>
  (f_X5_advance I1').bind fun y3 =>
  f_X5_readTown_56 P y3)) else ((f_X5_refuse I (2 : Int32)).bind fun y4 =>
  some y4)
theorem b_X5_readTown (X : CX) (Q : State → Prop) {I : Mem} {P : PMem} {O : Nat → Int64} {D : Bool} {n : Nat} {r : (Mem)}  (h : f_X5_readTown P I = some r) (E : EndR X cX5_readTown RX5 1 (none) 10 n none r P O D Q) : Here X cX5_readTown RX5 1 (none) 10 n 0 [some (.inr (.inr (5, 0, 0)))] [] I P O D n Q := by
  unfold f_X5_readTown at h
  refine h_aload_n dX5_readTown_0 rfl ?_
  refine g_X5_19  dX5_readTown_1 ?_
  obtain ⟨g1, h⟩ := gd_some h
  have w1 := of_decide_eq_true g1
  refine g_X5_101 (by omega) dX5_readTown_4 ?_
  refine h_bipush (9 : Int32) dX5_readTown_7 k_bipush_9 ?_
  refine h_icmp_lt (tgt := 18) dX5_readTown_9 (by decide) (fun q1 => ?_) (fun q1 => ?_)
  · rw [if_pos q1] at h
    refine h_aload_n dX5_readTown_18 rfl ?_
    obtain ⟨y1, hh1, h⟩ := obd_some h
    refine h_cVv [] (m_X5_advance  hh1) cw_X5_43 dX5_readTown_19 rfl ok_5 (by decide) rfl (Or.inr rfl) rfl ?_
    refine h_aload_n dX5_readTown_22 rfl ?_
    refine h_ldcs (text := "inn") (j := 12) dX5_readTown_23 (by decide) ?_
    obtain ⟨y2, hh2, h⟩ := obd_some h
    refine h_cVi [.inr (.inr (90, 12, 0))] (m_X5_isWord (by decide) hh2) cw_X5_57 dX5_readTown_25 rfl ok_5 (by decide) rfl (Or.inr rfl) rfl ?_
    refine h_if_eq (tgt := 56) dX5_readTown_28 (by decide) (fun q2 => ?_) (fun q2 => ?_)
    · rw [if_pos q2] at h
      exact (b_X5_readTown_56 X Q  h E)
    · rw [if_neg q2] at h
      refine h_aload_n dX5_readTown_31 rfl ?_
      refine g_X5_19  dX5_readTown_32 ?_
      refine h_dup dX5_readTown_35 (fun _ => rfl) ?_
      refine g_X5_106 (by omega) dX5_readTown_36 ?_
      refine h_iconst (1 : Int32) dX5_readTown_39 k_iconst_1 ?_
      refine h_aload_n dX5_readTown_40 rfl ?_
      refine g_X5_19  dX5_readTown_41 ?_
      refine g_X5_101 (by omega) dX5_readTown_44 ?_
      refine h_shl dX5_readTown_47 ?_
      refine h_ior dX5_readTown_48 ?_
      obtain ⟨I1', e1, h⟩ := bnd_some h
      refine p_X5_106 (by omega) dX5_readTown_49 ?_
      refine h_nmI e1 ?_
      refine h_aload_n dX5_readTown_52 rfl ?_
      obtain ⟨y3, hh3, h⟩ := obd_some h
      refine h_cVv [] (m_X5_advance  hh3) cw_X5_43 dX5_readTown_53 rfl ok_5 (by decide) rfl (Or.inr rfl) rfl ?_
      exact (b_X5_readTown_56 X Q  h E)
  · rw [if_neg q1] at h
    refine h_aload_n dX5_readTown_12 rfl ?_
    refine h_iconst (2 : Int32) dX5_readTown_13 k_iconst_2 ?_
    obtain ⟨y4, hh4, h⟩ := obd_some h
    refine h_cVv [.inl (2 : Int32)] (m_X5_refuse  hh4) cw_X5_94 dX5_readTown_14 rfl ok_5 (by decide) rfl (Or.inr rfl) rfl ?_
    cases h
    exact h_vret dX5_readTown_17 rfl E
theorem m_X5_readTown {I : Mem} {P : PMem} {O : Nat → Int64} {D : Bool} {n : Nat}  {r : (Mem)}  (h : f_X5_readTown P I = some r) : MethR yX5_readTown cX5_readTown 1 (none) 10 [.inr (.inr (5, 0, 0))] I P O D n none r P O D n := meth_R (Nat.le_refl _) (by decide) rfl (Nat.le_of_ble_eq_true rfl) rfl (fun X Q E => b_X5_readTown X Q  h E)
def f_X5_lookAtNumber_77   (I : Mem) (v3 : Int32) : Option (Int32 × Mem) :=
  (f_X5_refuse I (2 : Int32)).bind fun y1 =>
  some (v3, y1)
theorem b_X5_lookAtNumber_77 (X : CX) (Q : State → Prop) {I : Mem} {P : PMem} {O : Nat → Int64} {D : Bool} {n : Nat} {v3 : Int32} {r : (Int32 × Mem)}  (h : f_X5_lookAtNumber_77 I v3 = some r) (E : EndR X cX5_lookAtNumber RX5 5 (some .int) 3 n (some (.inl r.1)) r.2 P O D Q) : Here X cX5_lookAtNumber RX5 5 (some .int) 3 n 77 [some (.inr (.inr (5, 0, 0))), none, none, some (.inl v3), none] [] I P O D n Q := by
  unfold f_X5_lookAtNumber_77 at h
  refine h_aload_n dX5_lookAtNumber_77 rfl ?_
  refine h_iconst (2 : Int32) dX5_lookAtNumber_78 k_iconst_2 ?_
  obtain ⟨y1, hh1, h⟩ := obd_some h
  refine h_cVv [.inl (2 : Int32)] (m_X5_refuse  hh1) cw_X5_94 dX5_lookAtNumber_79 rfl ok_5 (by decide) rfl (Or.inr rfl) rfl ?_
  refine h_iload_n dX5_lookAtNumber_82 rfl ?_
  cases h
  exact h_iret dX5_lookAtNumber_83 rfl E
def f_X5_lookAtNumber_23   : Nat → Mem → Int32 → Int32 → Int32 → Int32 → Option (Int32 × Mem)
  | 0, _, _, _, _, _ => none
  | fu + 1, I, v1, v2, v3, v4 =>
    if (I 5 0 0 7) ≤ v4 then (if (4 : Int32) < ((I 5 0 0 7) - (I 5 0 0 6)) then (f_X5_lookAtNumber_77 I v3) else (if v3 < v1 then (f_X5_lookAtNumber_77 I v3) else (if v3 ≤ v2 then (some (v3, I)) else (f_X5_lookAtNumber_77 I v3)))) else (gd (inb v4 600) <|
    bnd ((v3 * (10 : Int32)) + ((I 47 0 0 v4.toNatClampNeg) - (48 : Int32))) fun x1 =>
    (f_X5_lookAtNumber_23 fu) I v1 v2 x1 (v4 + (1 : Int32)))
theorem b_X5_lookAtNumber_23 (X : CX) (Q : State → Prop) {P : PMem} {O : Nat → Int64} {D : Bool} {n : Nat} {r : (Int32 × Mem)}  : ∀ (fu : Nat) {I : Mem} {v1 : Int32} {v2 : Int32} {v3 : Int32} {v4 : Int32}, f_X5_lookAtNumber_23 fu I v1 v2 v3 v4 = some r → EndR X cX5_lookAtNumber RX5 5 (some .int) 3 n (some (.inl r.1)) r.2 P O D Q → Here X cX5_lookAtNumber RX5 5 (some .int) 3 n 23 [some (.inr (.inr (5, 0, 0))), some (.inl v1), some (.inl v2), some (.inl v3), some (.inl v4)] [] I P O D n Q := by
  intro fu
  induction fu with
  | zero => intro I v1 v2 v3 v4 h E; cases h
  | succ fu ih =>
  intro I v1 v2 v3 v4 h E
  have H23 : ∀ (I : Mem) (v1 : Int32) (v2 : Int32) (v3 : Int32) (v4 : Int32), f_X5_lookAtNumber_23 fu I v1 v2 v3 v4 = some r → Here X cX5_lookAtNumber RX5 5 (some .int) 3 n 23 [some (.inr (.inr (5, 0, 0))), some (.inl v1), some (.inl v2), some (.inl v3), some (.inl v4)] [] I P O D n Q := fun _ _ _ _ _ b => ih b E
  simp only [f_X5_lookAtNumber_23] at h
  refine h_iload dX5_lookAtNumber_23 rfl ?_
  refine h_aload_n dX5_lookAtNumber_25 rfl ?_
  refine g_X5_40  dX5_lookAtNumber_26 ?_
  refine h_icmp_ge (tgt := 54) dX5_lookAtNumber_29 (by decide) (fun q1 => ?_) (fun q1 => ?_)
  · rw [if_pos q1] at h
    refine h_aload_n dX5_lookAtNumber_54 rfl ?_
    refine g_X5_40  dX5_lookAtNumber_55 ?_
    refine h_aload_n dX5_lookAtNumber_58 rfl ?_
    refine g_X5_216  dX5_lookAtNumber_59 ?_
    refine h_isub dX5_lookAtNumber_62 ?_
    refine h_iconst (4 : Int32) dX5_lookAtNumber_63 k_iconst_4 ?_
    refine h_icmp_gt (tgt := 77) dX5_lookAtNumber_64 (by decide) (fun q2 => ?_) (fun q2 => ?_)
    · rw [if_pos q2] at h
      exact h_mask [true, false, false, true, false] (b_X5_lookAtNumber_77 X Q  h E)
    · rw [if_neg q2] at h
      refine h_iload_n dX5_lookAtNumber_67 rfl ?_
      refine h_iload_n dX5_lookAtNumber_68 rfl ?_
      refine h_icmp_lt (tgt := 77) dX5_lookAtNumber_69 (by decide) (fun q3 => ?_) (fun q3 => ?_)
      · rw [if_pos q3] at h
        exact h_mask [true, false, false, true, false] (b_X5_lookAtNumber_77 X Q  h E)
      · rw [if_neg q3] at h
        refine h_iload_n dX5_lookAtNumber_72 rfl ?_
        refine h_iload_n dX5_lookAtNumber_73 rfl ?_
        refine h_icmp_le (tgt := 82) dX5_lookAtNumber_74 (by decide) (fun q4 => ?_) (fun q4 => ?_)
        · rw [if_pos q4] at h
          refine h_iload_n dX5_lookAtNumber_82 rfl ?_
          cases h
          exact h_iret dX5_lookAtNumber_83 rfl E
        · rw [if_neg q4] at h
          exact h_mask [true, false, false, true, false] (b_X5_lookAtNumber_77 X Q  h E)
  · rw [if_neg q1] at h
    refine h_iload_n dX5_lookAtNumber_32 rfl ?_
    refine h_bipush (10 : Int32) dX5_lookAtNumber_33 k_bipush_10 ?_
    refine h_imul dX5_lookAtNumber_35 ?_
    refine h_aload_n dX5_lookAtNumber_36 rfl ?_
    refine g_X5_15  dX5_lookAtNumber_37 ?_
    refine h_iload dX5_lookAtNumber_40 rfl ?_
    obtain ⟨g1, h⟩ := gd_some h
    refine al_47  v4.toNatClampNeg rfl dX5_lookAtNumber_42 g1 ?_
    refine h_bipush (48 : Int32) dX5_lookAtNumber_43 k_bipush_48 ?_
    refine h_isub dX5_lookAtNumber_45 ?_
    refine h_iadd dX5_lookAtNumber_46 ?_
    obtain ⟨x1, e1, h⟩ := bnd_some h
    refine h_nmv e1 ?_
    refine h_istore_n dX5_lookAtNumber_47 (by decide) rfl ?_
    refine h_iinc (1 : Int32) dX5_lookAtNumber_48 rfl k_iinc_1 (by decide) rfl ?_
    refine h_goto (tgt := 23) dX5_lookAtNumber_51 (by decide) ?_
    exact (H23 _ _ _ _ _ h)
def f_X5_lookAtNumber   (I : Mem) (v1 : Int32) (v2 : Int32) : Option (Int32 × Mem) :=
  if (I 5 0 0 5) = (2 : Int32) then (bnd (I 5 0 0 6) fun x1 =>
  f_X5_lookAtNumber_23 FU I v1 v2 (0 : Int32) x1) else ((f_X5_refuse I (1 : Int32)).bind fun y1 =>
  some ((-1 : Int32), y1))
theorem b_X5_lookAtNumber (X : CX) (Q : State → Prop) {I : Mem} {P : PMem} {O : Nat → Int64} {D : Bool} {n : Nat} {v1 : Int32} {v2 : Int32} {r : (Int32 × Mem)}  (h : f_X5_lookAtNumber I v1 v2 = some r) (E : EndR X cX5_lookAtNumber RX5 5 (some .int) 3 n (some (.inl r.1)) r.2 P O D Q) : Here X cX5_lookAtNumber RX5 5 (some .int) 3 n 0 [some (.inr (.inr (5, 0, 0))), some (.inl v1), some (.inl v2), none, none] [] I P O D n Q := by
  unfold f_X5_lookAtNumber at h
  refine h_aload_n dX5_lookAtNumber_0 rfl ?_
  refine g_X5_46  dX5_lookAtNumber_1 ?_
  refine h_iconst (2 : Int32) dX5_lookAtNumber_4 k_iconst_2 ?_
  refine h_icmp_eq (tgt := 15) dX5_lookAtNumber_5 (by decide) (fun q1 => ?_) (fun q1 => ?_)
  · rw [if_pos q1] at h
    refine h_iconst (0 : Int32) dX5_lookAtNumber_15 k_iconst_0 ?_
    refine h_istore_n dX5_lookAtNumber_16 (by decide) rfl ?_
    refine h_aload_n dX5_lookAtNumber_17 rfl ?_
    refine g_X5_216  dX5_lookAtNumber_18 ?_
    obtain ⟨x1, e1, h⟩ := bnd_some h
    refine h_nmv e1 ?_
    refine h_istore dX5_lookAtNumber_21 (by decide) rfl ?_
    exact (b_X5_lookAtNumber_23 X Q FU  h E)
  · rw [if_neg q1] at h
    refine h_aload_n dX5_lookAtNumber_8 rfl ?_
    refine h_iconst (1 : Int32) dX5_lookAtNumber_9 k_iconst_1 ?_
    obtain ⟨y1, hh1, h⟩ := obd_some h
    refine h_cVv [.inl (1 : Int32)] (m_X5_refuse  hh1) cw_X5_94 dX5_lookAtNumber_10 rfl ok_5 (by decide) rfl (Or.inr rfl) rfl ?_
    refine h_iconst (-1 : Int32) dX5_lookAtNumber_13 k_iconst_m1 ?_
    cases h
    exact h_iret dX5_lookAtNumber_14 rfl E
theorem m_X5_lookAtNumber {I : Mem} {P : PMem} {O : Nat → Int64} {D : Bool} {n : Nat} {v1 : Int32} {v2 : Int32} {r : (Int32 × Mem)}  (h : f_X5_lookAtNumber I v1 v2 = some r) : MethR yX5_lookAtNumber cX5_lookAtNumber 5 (some .int) 3 [.inr (.inr (5, 0, 0)), .inl v1, .inl v2] I P O D n (some (.inl r.1)) r.2 P O D n := meth_R (Nat.le_refl _) (by decide) rfl (Nat.le_of_ble_eq_true rfl) rfl (fun X Q E => b_X5_lookAtNumber X Q  h E)
def f_X5_lookAtTown_25  (P : PMem) (I : Mem) (v1 : Int32) : Option (Int32 × Mem) :=
  if (I 5 0 0 0) = 0 then (some (v1, I)) else (some ((-1 : Int32), I))
theorem b_X5_lookAtTown_25 (X : CX) (Q : State → Prop) {I : Mem} {P : PMem} {O : Nat → Int64} {D : Bool} {n : Nat} {v1 : Int32} {r : (Int32 × Mem)}  (h : f_X5_lookAtTown_25 P I v1 = some r) (E : EndR X cX5_lookAtTown RX5 2 (some .int) 4 n (some (.inl r.1)) r.2 P O D Q) : Here X cX5_lookAtTown RX5 2 (some .int) 4 n 25 [some (.inr (.inr (5, 0, 0))), some (.inl v1)] [] I P O D n Q := by
  unfold f_X5_lookAtTown_25 at h
  refine h_aload_n dX5_lookAtTown_25 rfl ?_
  refine g_X5_37  dX5_lookAtTown_26 ?_
  refine h_if_ne (tgt := 36) dX5_lookAtTown_29 (by decide) (fun q1 => ?_) (fun q1 => ?_)
  · rw [if_neg q1] at h
    refine h_iconst (-1 : Int32) dX5_lookAtTown_36 k_iconst_m1 ?_
    cases h
    exact h_iret dX5_lookAtTown_37 rfl E
  · rw [if_pos q1] at h
    refine h_iload_n dX5_lookAtTown_32 rfl ?_
    refine h_goto (tgt := 37) dX5_lookAtTown_33 (by decide) ?_
    cases h
    exact h_iret dX5_lookAtTown_37 rfl E
def f_X5_lookAtTown  (P : PMem) (I : Mem) : Option (Int32 × Mem) :=
  (f_X5_lookAtNumber I (0 : Int32) (9999 : Int32)).bind fun y1 =>
  gd (decide ((P 5 0 0 4) < 2)) <|
  if y1.1 < (y1.2 3 (P 5 0 0 4) 0 0) then (f_X5_lookAtTown_25 P y1.2 y1.1) else ((f_X5_refuse y1.2 (3 : Int32)).bind fun y2 =>
  f_X5_lookAtTown_25 P y2 y1.1)
theorem b_X5_lookAtTown (X : CX) (Q : State → Prop) {I : Mem} {P : PMem} {O : Nat → Int64} {D : Bool} {n : Nat} {r : (Int32 × Mem)}  (h : f_X5_lookAtTown P I = some r) (E : EndR X cX5_lookAtTown RX5 2 (some .int) 4 n (some (.inl r.1)) r.2 P O D Q) : Here X cX5_lookAtTown RX5 2 (some .int) 4 n 0 [some (.inr (.inr (5, 0, 0))), none] [] I P O D n Q := by
  unfold f_X5_lookAtTown at h
  refine h_aload_n dX5_lookAtTown_0 rfl ?_
  refine h_iconst (0 : Int32) dX5_lookAtTown_1 k_iconst_0 ?_
  refine h_sipush (9999 : Int32) dX5_lookAtTown_2 k_sipush_9999 ?_
  obtain ⟨y1, hh1, h⟩ := obd_some h
  refine h_cVi [.inl (0 : Int32), .inl (9999 : Int32)] (m_X5_lookAtNumber  hh1) cw_X5_213 dX5_lookAtTown_5 rfl ok_5 (by decide) rfl (Or.inr rfl) rfl ?_
  refine h_istore_n dX5_lookAtTown_8 (by decide) rfl ?_
  refine h_iload_n dX5_lookAtTown_9 rfl ?_
  refine h_aload_n dX5_lookAtTown_10 rfl ?_
  refine g_X5_19  dX5_lookAtTown_11 ?_
  obtain ⟨g1, h⟩ := gd_some h
  have w1 := of_decide_eq_true g1
  refine g_X5_101 (by omega) dX5_lookAtTown_14 ?_
  refine h_icmp_lt (tgt := 25) dX5_lookAtTown_17 (by decide) (fun q1 => ?_) (fun q1 => ?_)
  · rw [if_pos q1] at h
    exact (b_X5_lookAtTown_25 X Q  h E)
  · rw [if_neg q1] at h
    refine h_aload_n dX5_lookAtTown_20 rfl ?_
    refine h_iconst (3 : Int32) dX5_lookAtTown_21 k_iconst_3 ?_
    obtain ⟨y2, hh2, h⟩ := obd_some h
    refine h_cVv [.inl (3 : Int32)] (m_X5_refuse  hh2) cw_X5_94 dX5_lookAtTown_22 rfl ok_5 (by decide) rfl (Or.inr rfl) rfl ?_
    exact (b_X5_lookAtTown_25 X Q  h E)
theorem m_X5_lookAtTown {I : Mem} {P : PMem} {O : Nat → Int64} {D : Bool} {n : Nat}  {r : (Int32 × Mem)}  (h : f_X5_lookAtTown P I = some r) : MethR yX5_lookAtTown cX5_lookAtTown 2 (some .int) 4 [.inr (.inr (5, 0, 0))] I P O D n (some (.inl r.1)) r.2 P O D n := meth_R (Nat.le_refl _) (by decide) rfl (Nat.le_of_ble_eq_true rfl) rfl (fun X Q E => b_X5_lookAtTown X Q  h E)
def f_X5_takeNumber   (I : Mem) (v1 : Int32) (v2 : Int32) : Option (Int32 × Mem) :=
  (f_X5_lookAtNumber I v1 v2).bind fun y1 =>
  (f_X5_advance y1.2).bind fun y2 =>
  some (y1.1, y2)
theorem b_X5_takeNumber (X : CX) (Q : State → Prop) {I : Mem} {P : PMem} {O : Nat → Int64} {D : Bool} {n : Nat} {v1 : Int32} {v2 : Int32} {r : (Int32 × Mem)}  (h : f_X5_takeNumber I v1 v2 = some r) (E : EndR X cX5_takeNumber RX5 4 (some .int) 4 n (some (.inl r.1)) r.2 P O D Q) : Here X cX5_takeNumber RX5 4 (some .int) 4 n 0 [some (.inr (.inr (5, 0, 0))), some (.inl v1), some (.inl v2), none] [] I P O D n Q := by
  unfold f_X5_takeNumber at h
  refine h_aload_n dX5_takeNumber_0 rfl ?_
  refine h_iload_n dX5_takeNumber_1 rfl ?_
  refine h_iload_n dX5_takeNumber_2 rfl ?_
  obtain ⟨y1, hh1, h⟩ := obd_some h
  refine h_cVi [.inl v1, .inl v2] (m_X5_lookAtNumber  hh1) cw_X5_213 dX5_takeNumber_3 rfl ok_5 (by decide) rfl (Or.inr rfl) rfl ?_
  refine h_istore_n dX5_takeNumber_6 (by decide) rfl ?_
  refine h_aload_n dX5_takeNumber_7 rfl ?_
  obtain ⟨y2, hh2, h⟩ := obd_some h
  refine h_cVv [] (m_X5_advance  hh2) cw_X5_43 dX5_takeNumber_8 rfl ok_5 (by decide) rfl (Or.inr rfl) rfl ?_
  refine h_iload_n dX5_takeNumber_11 rfl ?_
  cases h
  exact h_iret dX5_takeNumber_12 rfl E
theorem m_X5_takeNumber {I : Mem} {P : PMem} {O : Nat → Int64} {D : Bool} {n : Nat} {v1 : Int32} {v2 : Int32} {r : (Int32 × Mem)}  (h : f_X5_takeNumber I v1 v2 = some r) : MethR yX5_takeNumber cX5_takeNumber 4 (some .int) 4 [.inr (.inr (5, 0, 0)), .inl v1, .inl v2] I P O D n (some (.inl r.1)) r.2 P O D n := meth_R (Nat.le_refl _) (by decide) rfl (Nat.le_of_ble_eq_true rfl) rfl (fun X Q E => b_X5_takeNumber X Q  h E)
