theorem dX8_count_0 : decode cX8_count 0 = .ok (.aload_n 0, 1) := by decide +kernel
theorem dX8_count_1 : decode cX8_count 1 = .ok (.iconst 0, 1) := by decide +kernel
theorem dX8_count_2 : decode cX8_count 2 = .ok (.putfield 150, 3) := by decide +kernel
theorem dX8_count_5 : decode cX8_count 5 = .ok (.iload_n 1, 1) := by decide +kernel
theorem dX8_count_6 : decode cX8_count 6 = .ok (.tableswitch 163 0 15 #[78, 85, 92, 99, 106, 113, 118, 123, 128, 133, 138, 143, 148, 153, 153, 153], 78) := by decide +kernel
theorem dX8_count_84 : decode cX8_count 84 = .ok (.aload_n 0, 1) := by decide +kernel
theorem dX8_count_85 : decode cX8_count 85 = .ok (.getfield 34, 3) := by decide +kernel
theorem dX8_count_88 : decode cX8_count 88 = .ok (.iconst 0, 1) := by decide +kernel
theorem dX8_count_89 : decode cX8_count 89 = .ok (.iaload, 1) := by decide +kernel
theorem dX8_count_90 : decode cX8_count 90 = .ok (.ireturn, 1) := by decide +kernel
theorem dX8_count_91 : decode cX8_count 91 = .ok (.aload_n 0, 1) := by decide +kernel
theorem dX8_count_92 : decode cX8_count 92 = .ok (.getfield 34, 3) := by decide +kernel
theorem dX8_count_95 : decode cX8_count 95 = .ok (.iconst 2, 1) := by decide +kernel
theorem dX8_count_96 : decode cX8_count 96 = .ok (.iaload, 1) := by decide +kernel
theorem dX8_count_97 : decode cX8_count 97 = .ok (.ireturn, 1) := by decide +kernel
theorem dX8_count_98 : decode cX8_count 98 = .ok (.aload_n 0, 1) := by decide +kernel
theorem dX8_count_99 : decode cX8_count 99 = .ok (.getfield 34, 3) := by decide +kernel
theorem dX8_count_102 : decode cX8_count 102 = .ok (.iconst 3, 1) := by decide +kernel
theorem dX8_count_103 : decode cX8_count 103 = .ok (.iaload, 1) := by decide +kernel
theorem dX8_count_104 : decode cX8_count 104 = .ok (.ireturn, 1) := by decide +kernel
theorem dX8_count_105 : decode cX8_count 105 = .ok (.aload_n 0, 1) := by decide +kernel
theorem dX8_count_106 : decode cX8_count 106 = .ok (.getfield 34, 3) := by decide +kernel
theorem dX8_count_109 : decode cX8_count 109 = .ok (.iconst 4, 1) := by decide +kernel
theorem dX8_count_110 : decode cX8_count 110 = .ok (.iaload, 1) := by decide +kernel
theorem dX8_count_111 : decode cX8_count 111 = .ok (.ireturn, 1) := by decide +kernel
theorem dX8_count_112 : decode cX8_count 112 = .ok (.aload_n 0, 1) := by decide +kernel
theorem dX8_count_113 : decode cX8_count 113 = .ok (.getfield 34, 3) := by decide +kernel
theorem dX8_count_116 : decode cX8_count 116 = .ok (.iconst 5, 1) := by decide +kernel
theorem dX8_count_117 : decode cX8_count 117 = .ok (.iaload, 1) := by decide +kernel
theorem dX8_count_118 : decode cX8_count 118 = .ok (.ireturn, 1) := by decide +kernel
theorem dX8_count_119 : decode cX8_count 119 = .ok (.aload_n 0, 1) := by decide +kernel
theorem dX8_count_120 : decode cX8_count 120 = .ok (.getfield 311, 3) := by decide +kernel
theorem dX8_count_123 : decode cX8_count 123 = .ok (.ireturn, 1) := by decide +kernel
theorem dX8_count_124 : decode cX8_count 124 = .ok (.aload_n 0, 1) := by decide +kernel
theorem dX8_count_125 : decode cX8_count 125 = .ok (.getfield 314, 3) := by decide +kernel
theorem dX8_count_128 : decode cX8_count 128 = .ok (.ireturn, 1) := by decide +kernel
theorem dX8_count_129 : decode cX8_count 129 = .ok (.aload_n 0, 1) := by decide +kernel
theorem dX8_count_130 : decode cX8_count 130 = .ok (.getfield 317, 3) := by decide +kernel
theorem dX8_count_133 : decode cX8_count 133 = .ok (.ireturn, 1) := by decide +kernel
theorem dX8_count_134 : decode cX8_count 134 = .ok (.aload_n 0, 1) := by decide +kernel
theorem dX8_count_135 : decode cX8_count 135 = .ok (.getfield 320, 3) := by decide +kernel
theorem dX8_count_138 : decode cX8_count 138 = .ok (.ireturn, 1) := by decide +kernel
theorem dX8_count_139 : decode cX8_count 139 = .ok (.aload_n 0, 1) := by decide +kernel
theorem dX8_count_140 : decode cX8_count 140 = .ok (.invokevirtual 410, 3) := by decide +kernel
theorem dX8_count_143 : decode cX8_count 143 = .ok (.ireturn, 1) := by decide +kernel
theorem dX8_count_144 : decode cX8_count 144 = .ok (.aload_n 0, 1) := by decide +kernel
theorem dX8_count_145 : decode cX8_count 145 = .ok (.getfield 323, 3) := by decide +kernel
theorem dX8_count_148 : decode cX8_count 148 = .ok (.ireturn, 1) := by decide +kernel
theorem dX8_count_149 : decode cX8_count 149 = .ok (.aload_n 0, 1) := by decide +kernel
theorem dX8_count_150 : decode cX8_count 150 = .ok (.getfield 326, 3) := by decide +kernel
theorem dX8_count_153 : decode cX8_count 153 = .ok (.ireturn, 1) := by decide +kernel
theorem dX8_count_154 : decode cX8_count 154 = .ok (.aload_n 0, 1) := by decide +kernel
theorem dX8_count_155 : decode cX8_count 155 = .ok (.getfield 157, 3) := by decide +kernel
theorem dX8_count_158 : decode cX8_count 158 = .ok (.ireturn, 1) := by decide +kernel
theorem dX8_count_159 : decode cX8_count 159 = .ok (.aload_n 0, 1) := by decide +kernel
theorem dX8_count_160 : decode cX8_count 160 = .ok (.getfield 60, 3) := by decide +kernel
theorem dX8_count_163 : decode cX8_count 163 = .ok (.iload_n 1, 1) := by decide +kernel
theorem dX8_count_164 : decode cX8_count 164 = .ok (.bipush 13, 2) := by decide +kernel
theorem dX8_count_166 : decode cX8_count 166 = .ok (.isub, 1) := by decide +kernel
theorem dX8_count_167 : decode cX8_count 167 = .ok (.iaload, 1) := by decide +kernel
theorem dX8_count_168 : decode cX8_count 168 = .ok (.ireturn, 1) := by decide +kernel
theorem dX8_count_169 : decode cX8_count 169 = .ok (.aload_n 0, 1) := by decide +kernel
theorem dX8_count_170 : decode cX8_count 170 = .ok (.iconst 1, 1) := by decide +kernel
theorem dX8_count_171 : decode cX8_count 171 = .ok (.invokevirtual 298, 3) := by decide +kernel
theorem dX8_count_174 : decode cX8_count 174 = .ok (.ireturn, 1) := by decide +kernel
theorem dX8_far_0 : decode cX8_far 0 = .ok (.aload_n 0, 1) := by decide +kernel
theorem dX8_far_1 : decode cX8_far 1 = .ok (.iconst 0, 1) := by decide +kernel
theorem dX8_far_2 : decode cX8_far 2 = .ok (.putfield 150, 3) := by decide +kernel
theorem dX8_far_5 : decode cX8_far 5 = .ok (.aload_n 0, 1) := by decide +kernel
theorem dX8_far_6 : decode cX8_far 6 = .ok (.iload_n 1, 1) := by decide +kernel
theorem dX8_far_7 : decode cX8_far 7 = .ok (.invokevirtual 413, 3) := by decide +kernel
theorem dX8_far_10 : decode cX8_far 10 = .ok (.ifCond .eq 20, 3) := by decide +kernel
theorem dX8_far_13 : decode cX8_far 13 = .ok (.aload_n 0, 1) := by decide +kernel
theorem dX8_far_14 : decode cX8_far 14 = .ok (.iload_n 2, 1) := by decide +kernel
theorem dX8_far_15 : decode cX8_far 15 = .ok (.invokevirtual 413, 3) := by decide +kernel
theorem dX8_far_18 : decode cX8_far 18 = .ok (.ifCond .eq 12, 3) := by decide +kernel
theorem dX8_far_21 : decode cX8_far 21 = .ok (.iload_n 3, 1) := by decide +kernel
theorem dX8_far_22 : decode cX8_far 22 = .ok (.ifCond .lt 8, 3) := by decide +kernel
theorem dX8_far_25 : decode cX8_far 25 = .ok (.iload_n 3, 1) := by decide +kernel
theorem dX8_far_26 : decode cX8_far 26 = .ok (.iconst 1, 1) := by decide +kernel
theorem dX8_far_27 : decode cX8_far 27 = .ok (.if_icmp .le 9, 3) := by decide +kernel
theorem dX8_far_30 : decode cX8_far 30 = .ok (.aload_n 0, 1) := by decide +kernel
theorem dX8_far_31 : decode cX8_far 31 = .ok (.iconst 1, 1) := by decide +kernel
theorem dX8_far_32 : decode cX8_far 32 = .ok (.invokevirtual 298, 3) := by decide +kernel
theorem dX8_far_35 : decode cX8_far 35 = .ok (.ireturn, 1) := by decide +kernel
theorem dX8_far_36 : decode cX8_far 36 = .ok (.iload_n 3, 1) := by decide +kernel
theorem dX8_far_37 : decode cX8_far 37 = .ok (.ifCond .ne 16, 3) := by decide +kernel
theorem dX8_far_40 : decode cX8_far 40 = .ok (.aload_n 0, 1) := by decide +kernel
theorem dX8_far_41 : decode cX8_far 41 = .ok (.getfield 70, 3) := by decide +kernel
theorem dX8_far_44 : decode cX8_far 44 = .ok (.iload_n 1, 1) := by decide +kernel
theorem dX8_far_45 : decode cX8_far 45 = .ok (.iload_n 2, 1) := by decide +kernel
theorem dX8_far_46 : decode cX8_far 46 = .ok (.invokestatic 276, 3) := by decide +kernel
theorem dX8_far_49 : decode cX8_far 49 = .ok (.iaload, 1) := by decide +kernel
theorem dX8_far_50 : decode cX8_far 50 = .ok (.goto 9, 3) := by decide +kernel
theorem dX8_far_53 : decode cX8_far 53 = .ok (.aload_n 0, 1) := by decide +kernel
theorem dX8_far_54 : decode cX8_far 54 = .ok (.iload_n 1, 1) := by decide +kernel
theorem dX8_far_55 : decode cX8_far 55 = .ok (.iload_n 2, 1) := by decide +kernel
theorem dX8_far_56 : decode cX8_far 56 = .ok (.invokevirtual 366, 3) := by decide +kernel
theorem dX8_far_59 : decode cX8_far 59 = .ok (.invokestatic 416, 3) := by decide +kernel
theorem dX8_far_62 : decode cX8_far 62 = .ok (.ireturn, 1) := by decide +kernel
theorem dX8_judge_0 : decode cX8_judge 0 = .ok (.aload_n 0, 1) := by decide +kernel
theorem dX8_judge_1 : decode cX8_judge 1 = .ok (.iconst 0, 1) := by decide +kernel
theorem dX8_judge_2 : decode cX8_judge 2 = .ok (.putfield 150, 3) := by decide +kernel
theorem dX8_judge_5 : decode cX8_judge 5 = .ok (.aload_n 0, 1) := by decide +kernel
theorem dX8_judge_6 : decode cX8_judge 6 = .ok (.iload_n 1, 1) := by decide +kernel
theorem dX8_judge_7 : decode cX8_judge 7 = .ok (.invokevirtual 419, 3) := by decide +kernel
theorem dX8_judge_10 : decode cX8_judge 10 = .ok (.ifCond .eq 15, 3) := by decide +kernel
theorem dX8_judge_13 : decode cX8_judge 13 = .ok (.iload_n 2, 1) := by decide +kernel
theorem dX8_judge_14 : decode cX8_judge 14 = .ok (.i2l, 1) := by decide +kernel
theorem dX8_judge_15 : decode cX8_judge 15 = .ok (.lconst 0, 1) := by decide +kernel
theorem dX8_judge_16 : decode cX8_judge 16 = .ok (.ldc2_w 422, 3) := by decide +kernel
theorem dX8_judge_19 : decode cX8_judge 19 = .ok (.invokestatic 153, 3) := by decide +kernel
theorem dX8_judge_22 : decode cX8_judge 22 = .ok (.ifCond .ne 9, 3) := by decide +kernel
theorem dX8_judge_25 : decode cX8_judge 25 = .ok (.aload_n 0, 1) := by decide +kernel
theorem dX8_judge_26 : decode cX8_judge 26 = .ok (.iconst 1, 1) := by decide +kernel
theorem dX8_judge_27 : decode cX8_judge 27 = .ok (.invokevirtual 298, 3) := by decide +kernel
theorem dX8_judge_30 : decode cX8_judge 30 = .ok (.ireturn, 1) := by decide +kernel
theorem dX8_judge_31 : decode cX8_judge 31 = .ok (.iload_n 2, 1) := by decide +kernel
theorem dX8_judge_32 : decode cX8_judge 32 = .ok (.iconst 4, 1) := by decide +kernel
theorem dX8_judge_33 : decode cX8_judge 33 = .ok (.if_icmp .ne 30, 3) := by decide +kernel
theorem dX8_judge_36 : decode cX8_judge 36 = .ok (.aload_n 0, 1) := by decide +kernel
theorem dX8_judge_37 : decode cX8_judge 37 = .ok (.invokevirtual 404, 3) := by decide +kernel
theorem dX8_judge_40 : decode cX8_judge 40 = .ok (.aload_n 0, 1) := by decide +kernel
theorem dX8_judge_41 : decode cX8_judge 41 = .ok (.invokevirtual 388, 3) := by decide +kernel
theorem dX8_judge_44 : decode cX8_judge 44 = .ok (.aload_n 0, 1) := by decide +kernel
theorem dX8_judge_45 : decode cX8_judge 45 = .ok (.getfield 94, 3) := by decide +kernel
theorem dX8_judge_48 : decode cX8_judge 48 = .ok (.bipush 7, 2) := by decide +kernel
theorem dX8_judge_50 : decode cX8_judge 50 = .ok (.iload_n 1, 1) := by decide +kernel
theorem dX8_judge_51 : decode cX8_judge 51 = .ok (.imul, 1) := by decide +kernel
theorem dX8_judge_52 : decode cX8_judge 52 = .ok (.aload_n 0, 1) := by decide +kernel
theorem dX8_judge_53 : decode cX8_judge 53 = .ok (.getfield 49, 3) := by decide +kernel
theorem dX8_judge_56 : decode cX8_judge 56 = .ok (.iload_n 1, 1) := by decide +kernel
theorem dX8_judge_57 : decode cX8_judge 57 = .ok (.iaload, 1) := by decide +kernel
theorem dX8_judge_58 : decode cX8_judge 58 = .ok (.iadd, 1) := by decide +kernel
theorem dX8_judge_59 : decode cX8_judge 59 = .ok (.iconst 1, 1) := by decide +kernel
theorem dX8_judge_60 : decode cX8_judge 60 = .ok (.isub, 1) := by decide +kernel
theorem dX8_judge_61 : decode cX8_judge 61 = .ok (.iaload, 1) := by decide +kernel
theorem dX8_judge_62 : decode cX8_judge 62 = .ok (.ireturn, 1) := by decide +kernel
theorem dX8_judge_63 : decode cX8_judge 63 = .ok (.iload_n 2, 1) := by decide +kernel
theorem dX8_judge_64 : decode cX8_judge 64 = .ok (.ifCond .ne 12, 3) := by decide +kernel
theorem dX8_judge_67 : decode cX8_judge 67 = .ok (.aload_n 0, 1) := by decide +kernel
theorem dX8_judge_68 : decode cX8_judge 68 = .ok (.getfield 41, 3) := by decide +kernel
theorem dX8_judge_71 : decode cX8_judge 71 = .ok (.iload_n 1, 1) := by decide +kernel
theorem dX8_judge_72 : decode cX8_judge 72 = .ok (.iaload, 1) := by decide +kernel
theorem dX8_judge_73 : decode cX8_judge 73 = .ok (.goto 37, 3) := by decide +kernel
theorem dX8_judge_76 : decode cX8_judge 76 = .ok (.iload_n 2, 1) := by decide +kernel
theorem dX8_judge_77 : decode cX8_judge 77 = .ok (.iconst 1, 1) := by decide +kernel
theorem dX8_judge_78 : decode cX8_judge 78 = .ok (.if_icmp .ne 12, 3) := by decide +kernel
theorem dX8_judge_81 : decode cX8_judge 81 = .ok (.aload_n 0, 1) := by decide +kernel
theorem dX8_judge_82 : decode cX8_judge 82 = .ok (.getfield 44, 3) := by decide +kernel
theorem dX8_judge_85 : decode cX8_judge 85 = .ok (.iload_n 1, 1) := by decide +kernel
theorem dX8_judge_86 : decode cX8_judge 86 = .ok (.iaload, 1) := by decide +kernel
theorem dX8_judge_87 : decode cX8_judge 87 = .ok (.goto 23, 3) := by decide +kernel
theorem dX8_judge_90 : decode cX8_judge 90 = .ok (.iload_n 2, 1) := by decide +kernel
theorem dX8_judge_91 : decode cX8_judge 91 = .ok (.iconst 2, 1) := by decide +kernel
theorem dX8_judge_92 : decode cX8_judge 92 = .ok (.if_icmp .ne 12, 3) := by decide +kernel
theorem dX8_judge_95 : decode cX8_judge 95 = .ok (.aload_n 0, 1) := by decide +kernel
theorem dX8_judge_96 : decode cX8_judge 96 = .ok (.getfield 47, 3) := by decide +kernel
theorem dX8_judge_99 : decode cX8_judge 99 = .ok (.iload_n 1, 1) := by decide +kernel
theorem dX8_judge_100 : decode cX8_judge 100 = .ok (.iaload, 1) := by decide +kernel
theorem dX8_judge_101 : decode cX8_judge 101 = .ok (.goto 9, 3) := by decide +kernel
theorem dX8_judge_104 : decode cX8_judge 104 = .ok (.aload_n 0, 1) := by decide +kernel
theorem dX8_judge_105 : decode cX8_judge 105 = .ok (.getfield 49, 3) := by decide +kernel
theorem dX8_judge_108 : decode cX8_judge 108 = .ok (.iload_n 1, 1) := by decide +kernel
theorem dX8_judge_109 : decode cX8_judge 109 = .ok (.iaload, 1) := by decide +kernel
theorem dX8_judge_110 : decode cX8_judge 110 = .ok (.ireturn, 1) := by decide +kernel
theorem dX8_stop_0 : decode cX8_stop 0 = .ok (.aload_n 0, 1) := by decide +kernel
theorem dX8_stop_1 : decode cX8_stop 1 = .ok (.iconst 0, 1) := by decide +kernel
theorem dX8_stop_2 : decode cX8_stop 2 = .ok (.putfield 150, 3) := by decide +kernel
theorem dX8_stop_5 : decode cX8_stop 5 = .ok (.aload_n 0, 1) := by decide +kernel
theorem dX8_stop_6 : decode cX8_stop 6 = .ok (.iload_n 1, 1) := by decide +kernel
theorem dX8_stop_7 : decode cX8_stop 7 = .ok (.invokevirtual 419, 3) := by decide +kernel
theorem dX8_stop_10 : decode cX8_stop 10 = .ok (.ifCond .eq 30, 3) := by decide +kernel
theorem dX8_stop_13 : decode cX8_stop 13 = .ok (.iload_n 2, 1) := by decide +kernel
theorem dX8_stop_14 : decode cX8_stop 14 = .ok (.i2l, 1) := by decide +kernel
theorem dX8_stop_15 : decode cX8_stop 15 = .ok (.lconst 0, 1) := by decide +kernel
theorem dX8_stop_16 : decode cX8_stop 16 = .ok (.aload_n 0, 1) := by decide +kernel
theorem dX8_stop_17 : decode cX8_stop 17 = .ok (.getfield 49, 3) := by decide +kernel
theorem dX8_stop_20 : decode cX8_stop 20 = .ok (.iload_n 1, 1) := by decide +kernel
theorem dX8_stop_21 : decode cX8_stop 21 = .ok (.iaload, 1) := by decide +kernel
theorem dX8_stop_22 : decode cX8_stop 22 = .ok (.iconst 1, 1) := by decide +kernel
theorem dX8_stop_23 : decode cX8_stop 23 = .ok (.isub, 1) := by decide +kernel
theorem dX8_stop_24 : decode cX8_stop 24 = .ok (.i2l, 1) := by decide +kernel
theorem dX8_stop_25 : decode cX8_stop 25 = .ok (.invokestatic 153, 3) := by decide +kernel
theorem dX8_stop_28 : decode cX8_stop 28 = .ok (.ifCond .eq 12, 3) := by decide +kernel
theorem dX8_stop_31 : decode cX8_stop 31 = .ok (.iload_n 3, 1) := by decide +kernel
theorem dX8_stop_32 : decode cX8_stop 32 = .ok (.ifCond .lt 8, 3) := by decide +kernel
theorem dX8_stop_35 : decode cX8_stop 35 = .ok (.iload_n 3, 1) := by decide +kernel
theorem dX8_stop_36 : decode cX8_stop 36 = .ok (.iconst 1, 1) := by decide +kernel
theorem dX8_stop_37 : decode cX8_stop 37 = .ok (.if_icmp .le 9, 3) := by decide +kernel
theorem dX8_stop_40 : decode cX8_stop 40 = .ok (.aload_n 0, 1) := by decide +kernel
theorem dX8_stop_41 : decode cX8_stop 41 = .ok (.iconst 1, 1) := by decide +kernel
theorem dX8_stop_42 : decode cX8_stop 42 = .ok (.invokevirtual 298, 3) := by decide +kernel
theorem dX8_stop_45 : decode cX8_stop 45 = .ok (.ireturn, 1) := by decide +kernel
theorem dX8_stop_46 : decode cX8_stop 46 = .ok (.aload_n 0, 1) := by decide +kernel
theorem dX8_stop_47 : decode cX8_stop 47 = .ok (.invokevirtual 404, 3) := by decide +kernel
theorem dX8_stop_50 : decode cX8_stop 50 = .ok (.aload_n 0, 1) := by decide +kernel
theorem dX8_stop_51 : decode cX8_stop 51 = .ok (.invokevirtual 388, 3) := by decide +kernel
theorem dX8_stop_54 : decode cX8_stop 54 = .ok (.iload_n 3, 1) := by decide +kernel
theorem dX8_stop_55 : decode cX8_stop 55 = .ok (.ifCond .ne 17, 3) := by decide +kernel
theorem dX8_stop_58 : decode cX8_stop 58 = .ok (.aload_n 0, 1) := by decide +kernel
theorem dX8_stop_59 : decode cX8_stop 59 = .ok (.getfield 91, 3) := by decide +kernel
theorem dX8_stop_62 : decode cX8_stop 62 = .ok (.bipush 7, 2) := by decide +kernel
theorem dX8_stop_64 : decode cX8_stop 64 = .ok (.iload_n 1, 1) := by decide +kernel
theorem dX8_stop_65 : decode cX8_stop 65 = .ok (.imul, 1) := by decide +kernel
theorem dX8_stop_66 : decode cX8_stop 66 = .ok (.iload_n 2, 1) := by decide +kernel
theorem dX8_stop_67 : decode cX8_stop 67 = .ok (.iadd, 1) := by decide +kernel
theorem dX8_stop_68 : decode cX8_stop 68 = .ok (.iaload, 1) := by decide +kernel
theorem dX8_stop_69 : decode cX8_stop 69 = .ok (.goto 14, 3) := by decide +kernel
theorem dX8_stop_72 : decode cX8_stop 72 = .ok (.aload_n 0, 1) := by decide +kernel
theorem dX8_stop_73 : decode cX8_stop 73 = .ok (.getfield 94, 3) := by decide +kernel
theorem dX8_stop_76 : decode cX8_stop 76 = .ok (.bipush 7, 2) := by decide +kernel
theorem dX8_stop_78 : decode cX8_stop 78 = .ok (.iload_n 1, 1) := by decide +kernel
theorem dX8_stop_79 : decode cX8_stop 79 = .ok (.imul, 1) := by decide +kernel
theorem dX8_stop_80 : decode cX8_stop 80 = .ok (.iload_n 2, 1) := by decide +kernel
theorem dX8_stop_81 : decode cX8_stop 81 = .ok (.iadd, 1) := by decide +kernel
theorem dX8_stop_82 : decode cX8_stop 82 = .ok (.iaload, 1) := by decide +kernel
theorem dX8_stop_83 : decode cX8_stop 83 = .ok (.ireturn, 1) := by decide +kernel
theorem dX8_where_0 : decode cX8_where 0 = .ok (.aload_n 0, 1) := by decide +kernel
theorem dX8_where_1 : decode cX8_where 1 = .ok (.iconst 0, 1) := by decide +kernel
theorem dX8_where_2 : decode cX8_where 2 = .ok (.putfield 150, 3) := by decide +kernel
theorem dX8_where_5 : decode cX8_where 5 = .ok (.aload_n 0, 1) := by decide +kernel
theorem dX8_where_6 : decode cX8_where 6 = .ok (.iload_n 1, 1) := by decide +kernel
theorem dX8_where_7 : decode cX8_where 7 = .ok (.invokevirtual 419, 3) := by decide +kernel
theorem dX8_where_10 : decode cX8_where 10 = .ok (.ifCond .ne 9, 3) := by decide +kernel
theorem dX8_where_13 : decode cX8_where 13 = .ok (.aload_n 0, 1) := by decide +kernel
theorem dX8_where_14 : decode cX8_where 14 = .ok (.iconst 1, 1) := by decide +kernel
theorem dX8_where_15 : decode cX8_where 15 = .ok (.invokevirtual 298, 3) := by decide +kernel
theorem dX8_where_18 : decode cX8_where 18 = .ok (.ireturn, 1) := by decide +kernel
theorem dX8_where_19 : decode cX8_where 19 = .ok (.aload_n 0, 1) := by decide +kernel
theorem dX8_where_20 : decode cX8_where 20 = .ok (.invokevirtual 404, 3) := by decide +kernel
theorem dX8_where_23 : decode cX8_where 23 = .ok (.aload_n 0, 1) := by decide +kernel
theorem dX8_where_24 : decode cX8_where 24 = .ok (.invokevirtual 388, 3) := by decide +kernel
theorem dX8_where_27 : decode cX8_where 27 = .ok (.aload_n 0, 1) := by decide +kernel
theorem dX8_where_28 : decode cX8_where 28 = .ok (.iload_n 1, 1) := by decide +kernel
theorem dX8_where_29 : decode cX8_where 29 = .ok (.iload_n 2, 1) := by decide +kernel
theorem dX8_where_30 : decode cX8_where 30 = .ok (.invokevirtual 346, 3) := by decide +kernel
theorem dX8_where_33 : decode cX8_where 33 = .ok (.ireturn, 1) := by decide +kernel
theorem dX8_proof_0 : decode cX8_proof 0 = .ok (.aload_n 0, 1) := by decide +kernel
theorem dX8_proof_1 : decode cX8_proof 1 = .ok (.iconst 0, 1) := by decide +kernel
theorem dX8_proof_2 : decode cX8_proof 2 = .ok (.putfield 150, 3) := by decide +kernel
theorem dX8_proof_5 : decode cX8_proof 5 = .ok (.aload_n 0, 1) := by decide +kernel
theorem dX8_proof_6 : decode cX8_proof 6 = .ok (.iload_n 1, 1) := by decide +kernel
theorem dX8_proof_7 : decode cX8_proof 7 = .ok (.invokevirtual 424, 3) := by decide +kernel
theorem dX8_proof_10 : decode cX8_proof 10 = .ok (.ifCond .eq 25, 3) := by decide +kernel
theorem dX8_proof_13 : decode cX8_proof 13 = .ok (.aload_n 0, 1) := by decide +kernel
theorem dX8_proof_14 : decode cX8_proof 14 = .ok (.iload_n 2, 1) := by decide +kernel
theorem dX8_proof_15 : decode cX8_proof 15 = .ok (.invokevirtual 413, 3) := by decide +kernel
theorem dX8_proof_18 : decode cX8_proof 18 = .ok (.ifCond .eq 17, 3) := by decide +kernel
theorem dX8_proof_21 : decode cX8_proof 21 = .ok (.aload_n 0, 1) := by decide +kernel
theorem dX8_proof_22 : decode cX8_proof 22 = .ok (.getfield 55, 3) := by decide +kernel
theorem dX8_proof_25 : decode cX8_proof 25 = .ok (.bipush 9, 2) := by decide +kernel
theorem dX8_proof_27 : decode cX8_proof 27 = .ok (.iload_n 1, 1) := by decide +kernel
theorem dX8_proof_28 : decode cX8_proof 28 = .ok (.imul, 1) := by decide +kernel
theorem dX8_proof_29 : decode cX8_proof 29 = .ok (.iload_n 2, 1) := by decide +kernel
theorem dX8_proof_30 : decode cX8_proof 30 = .ok (.iadd, 1) := by decide +kernel
theorem dX8_proof_31 : decode cX8_proof 31 = .ok (.iaload, 1) := by decide +kernel
theorem dX8_proof_32 : decode cX8_proof 32 = .ok (.goto 8, 3) := by decide +kernel
theorem dX8_proof_35 : decode cX8_proof 35 = .ok (.aload_n 0, 1) := by decide +kernel
theorem dX8_proof_36 : decode cX8_proof 36 = .ok (.iconst 1, 1) := by decide +kernel
theorem dX8_proof_37 : decode cX8_proof 37 = .ok (.invokevirtual 298, 3) := by decide +kernel
theorem dX8_proof_40 : decode cX8_proof 40 = .ok (.ireturn, 1) := by decide +kernel
theorem dX8_said_0 : decode cX8_said 0 = .ok (.aload_n 0, 1) := by decide +kernel
theorem dX8_said_1 : decode cX8_said 1 = .ok (.iconst 0, 1) := by decide +kernel
theorem dX8_said_2 : decode cX8_said 2 = .ok (.putfield 150, 3) := by decide +kernel
theorem dX8_said_5 : decode cX8_said 5 = .ok (.aload_n 0, 1) := by decide +kernel
theorem dX8_said_6 : decode cX8_said 6 = .ok (.iload_n 1, 1) := by decide +kernel
theorem dX8_said_7 : decode cX8_said 7 = .ok (.invokevirtual 424, 3) := by decide +kernel
theorem dX8_said_10 : decode cX8_said 10 = .ok (.ifCond .eq 23, 3) := by decide +kernel
theorem dX8_said_13 : decode cX8_said 13 = .ok (.aload_n 0, 1) := by decide +kernel
theorem dX8_said_14 : decode cX8_said 14 = .ok (.iload_n 2, 1) := by decide +kernel
theorem dX8_said_15 : decode cX8_said 15 = .ok (.invokevirtual 419, 3) := by decide +kernel
theorem dX8_said_18 : decode cX8_said 18 = .ok (.ifCond .eq 15, 3) := by decide +kernel
theorem dX8_said_21 : decode cX8_said 21 = .ok (.iload_n 3, 1) := by decide +kernel
theorem dX8_said_22 : decode cX8_said 22 = .ok (.i2l, 1) := by decide +kernel
theorem dX8_said_23 : decode cX8_said 23 = .ok (.lconst 0, 1) := by decide +kernel
theorem dX8_said_24 : decode cX8_said 24 = .ok (.ldc2_w 427, 3) := by decide +kernel
theorem dX8_said_27 : decode cX8_said 27 = .ok (.invokestatic 153, 3) := by decide +kernel
theorem dX8_said_30 : decode cX8_said 30 = .ok (.ifCond .ne 9, 3) := by decide +kernel
theorem dX8_said_33 : decode cX8_said 33 = .ok (.aload_n 0, 1) := by decide +kernel
theorem dX8_said_34 : decode cX8_said 34 = .ok (.iconst 1, 1) := by decide +kernel
theorem dX8_said_35 : decode cX8_said 35 = .ok (.invokevirtual 298, 3) := by decide +kernel
theorem dX8_said_38 : decode cX8_said 38 = .ok (.ireturn, 1) := by decide +kernel
theorem dX8_said_39 : decode cX8_said 39 = .ok (.aload_n 0, 1) := by decide +kernel
theorem dX8_said_40 : decode cX8_said 40 = .ok (.invokevirtual 410, 3) := by decide +kernel
theorem dX8_said_43 : decode cX8_said 43 = .ok (.pop, 1) := by decide +kernel
theorem dX8_said_44 : decode cX8_said 44 = .ok (.iconst 5, 1) := by decide +kernel
theorem dX8_said_45 : decode cX8_said 45 = .ok (.iload_n 1, 1) := by decide +kernel
theorem dX8_said_46 : decode cX8_said 46 = .ok (.imul, 1) := by decide +kernel
theorem dX8_said_47 : decode cX8_said 47 = .ok (.iload_n 2, 1) := by decide +kernel
theorem dX8_said_48 : decode cX8_said 48 = .ok (.iadd, 1) := by decide +kernel
theorem dX8_said_49 : decode cX8_said 49 = .ok (.istore 4, 2) := by decide +kernel
theorem dX8_said_51 : decode cX8_said 51 = .ok (.iload_n 3, 1) := by decide +kernel
theorem dX8_said_52 : decode cX8_said 52 = .ok (.iconst 3, 1) := by decide +kernel
theorem dX8_said_53 : decode cX8_said 53 = .ok (.if_icmp .ne 11, 3) := by decide +kernel
theorem dX8_said_56 : decode cX8_said 56 = .ok (.aload_n 0, 1) := by decide +kernel
theorem dX8_said_57 : decode cX8_said 57 = .ok (.getfield 114, 3) := by decide +kernel
theorem dX8_said_60 : decode cX8_said 60 = .ok (.iload 4, 2) := by decide +kernel
theorem dX8_said_62 : decode cX8_said 62 = .ok (.iaload, 1) := by decide +kernel
theorem dX8_said_63 : decode cX8_said 63 = .ok (.ireturn, 1) := by decide +kernel
theorem dX8_said_64 : decode cX8_said 64 = .ok (.aload_n 0, 1) := by decide +kernel
theorem dX8_said_65 : decode cX8_said 65 = .ok (.getfield 106, 3) := by decide +kernel
theorem dX8_said_68 : decode cX8_said 68 = .ok (.iload 4, 2) := by decide +kernel
theorem dX8_said_70 : decode cX8_said 70 = .ok (.iaload, 1) := by decide +kernel
theorem dX8_said_71 : decode cX8_said 71 = .ok (.iconst (-1), 1) := by decide +kernel
theorem dX8_said_72 : decode cX8_said 72 = .ok (.if_icmp .ne 7, 3) := by decide +kernel
theorem dX8_said_75 : decode cX8_said 75 = .ok (.iconst (-1), 1) := by decide +kernel
theorem dX8_said_76 : decode cX8_said 76 = .ok (.goto 39, 3) := by decide +kernel
theorem dX8_said_79 : decode cX8_said 79 = .ok (.iload_n 3, 1) := by decide +kernel
theorem dX8_said_80 : decode cX8_said 80 = .ok (.ifCond .ne 13, 3) := by decide +kernel
theorem dX8_said_83 : decode cX8_said 83 = .ok (.aload_n 0, 1) := by decide +kernel
theorem dX8_said_84 : decode cX8_said 84 = .ok (.getfield 106, 3) := by decide +kernel
theorem dX8_said_87 : decode cX8_said 87 = .ok (.iload 4, 2) := by decide +kernel
theorem dX8_said_89 : decode cX8_said 89 = .ok (.iaload, 1) := by decide +kernel
theorem dX8_said_90 : decode cX8_said 90 = .ok (.goto 25, 3) := by decide +kernel
theorem dX8_said_93 : decode cX8_said 93 = .ok (.iload_n 3, 1) := by decide +kernel
theorem dX8_said_94 : decode cX8_said 94 = .ok (.iconst 1, 1) := by decide +kernel
theorem dX8_said_95 : decode cX8_said 95 = .ok (.if_icmp .ne 13, 3) := by decide +kernel
theorem dX8_said_98 : decode cX8_said 98 = .ok (.aload_n 0, 1) := by decide +kernel
theorem dX8_said_99 : decode cX8_said 99 = .ok (.getfield 108, 3) := by decide +kernel
theorem dX8_said_102 : decode cX8_said 102 = .ok (.iload 4, 2) := by decide +kernel
theorem dX8_said_104 : decode cX8_said 104 = .ok (.iaload, 1) := by decide +kernel
theorem dX8_said_105 : decode cX8_said 105 = .ok (.goto 10, 3) := by decide +kernel
theorem dX8_said_108 : decode cX8_said 108 = .ok (.aload_n 0, 1) := by decide +kernel
theorem dX8_said_109 : decode cX8_said 109 = .ok (.getfield 111, 3) := by decide +kernel
theorem dX8_said_112 : decode cX8_said 112 = .ok (.iload 4, 2) := by decide +kernel
theorem dX8_said_114 : decode cX8_said 114 = .ok (.iaload, 1) := by decide +kernel
theorem dX8_said_115 : decode cX8_said 115 = .ok (.ireturn, 1) := by decide +kernel
theorem dX8_met_0 : decode cX8_met 0 = .ok (.aload_n 0, 1) := by decide +kernel
theorem dX8_met_1 : decode cX8_met 1 = .ok (.iconst 0, 1) := by decide +kernel
theorem dX8_met_2 : decode cX8_met 2 = .ok (.putfield 150, 3) := by decide +kernel
theorem dX8_met_5 : decode cX8_met 5 = .ok (.aload_n 0, 1) := by decide +kernel
theorem dX8_met_6 : decode cX8_met 6 = .ok (.iload_n 1, 1) := by decide +kernel
theorem dX8_met_7 : decode cX8_met 7 = .ok (.invokevirtual 419, 3) := by decide +kernel
theorem dX8_met_10 : decode cX8_met 10 = .ok (.ifCond .eq 11, 3) := by decide +kernel
theorem dX8_met_13 : decode cX8_met 13 = .ok (.aload_n 0, 1) := by decide +kernel
theorem dX8_met_14 : decode cX8_met 14 = .ok (.iload_n 2, 1) := by decide +kernel
theorem dX8_met_15 : decode cX8_met 15 = .ok (.invokevirtual 419, 3) := by decide +kernel
theorem dX8_met_18 : decode cX8_met 18 = .ok (.ifCond .ne 9, 3) := by decide +kernel
theorem dX8_met_21 : decode cX8_met 21 = .ok (.aload_n 0, 1) := by decide +kernel
theorem dX8_met_22 : decode cX8_met 22 = .ok (.iconst 1, 1) := by decide +kernel
theorem dX8_met_23 : decode cX8_met 23 = .ok (.invokevirtual 298, 3) := by decide +kernel
theorem dX8_met_26 : decode cX8_met 26 = .ok (.ireturn, 1) := by decide +kernel
theorem dX8_met_27 : decode cX8_met 27 = .ok (.iload_n 1, 1) := by decide +kernel
theorem dX8_met_28 : decode cX8_met 28 = .ok (.iload_n 2, 1) := by decide +kernel
theorem dX8_met_29 : decode cX8_met 29 = .ok (.if_icmp .ne 9, 3) := by decide +kernel
theorem dX8_met_32 : decode cX8_met 32 = .ok (.aload_n 0, 1) := by decide +kernel
theorem dX8_met_33 : decode cX8_met 33 = .ok (.iconst 2, 1) := by decide +kernel
theorem dX8_met_34 : decode cX8_met 34 = .ok (.invokevirtual 298, 3) := by decide +kernel
theorem dX8_met_37 : decode cX8_met 37 = .ok (.ireturn, 1) := by decide +kernel
theorem dX8_met_38 : decode cX8_met 38 = .ok (.aload_n 0, 1) := by decide +kernel
theorem dX8_met_39 : decode cX8_met 39 = .ok (.invokevirtual 410, 3) := by decide +kernel
theorem dX8_met_42 : decode cX8_met 42 = .ok (.pop, 1) := by decide +kernel
theorem dX8_met_43 : decode cX8_met 43 = .ok (.aload_n 0, 1) := by decide +kernel
theorem dX8_met_44 : decode cX8_met 44 = .ok (.getfield 97, 3) := by decide +kernel
theorem dX8_met_47 : decode cX8_met 47 = .ok (.iconst 5, 1) := by decide +kernel
theorem dX8_met_48 : decode cX8_met 48 = .ok (.iload_n 1, 1) := by decide +kernel
theorem dX8_met_49 : decode cX8_met 49 = .ok (.imul, 1) := by decide +kernel
theorem dX8_met_50 : decode cX8_met 50 = .ok (.iload_n 2, 1) := by decide +kernel
theorem dX8_met_51 : decode cX8_met 51 = .ok (.iadd, 1) := by decide +kernel
theorem dX8_met_52 : decode cX8_met 52 = .ok (.iaload, 1) := by decide +kernel
theorem dX8_met_53 : decode cX8_met 53 = .ok (.invokestatic 416, 3) := by decide +kernel
theorem dX8_met_56 : decode cX8_met 56 = .ok (.ireturn, 1) := by decide +kernel
theorem dX8_guilty_0 : decode cX8_guilty 0 = .ok (.aload_n 0, 1) := by decide +kernel
theorem dX8_guilty_1 : decode cX8_guilty 1 = .ok (.iconst 0, 1) := by decide +kernel
theorem dX8_guilty_2 : decode cX8_guilty 2 = .ok (.putfield 150, 3) := by decide +kernel
theorem dX8_guilty_5 : decode cX8_guilty 5 = .ok (.aload_n 0, 1) := by decide +kernel
theorem dX8_guilty_6 : decode cX8_guilty 6 = .ok (.iload_n 1, 1) := by decide +kernel
theorem dX8_guilty_7 : decode cX8_guilty 7 = .ok (.invokevirtual 424, 3) := by decide +kernel
theorem dX8_guilty_10 : decode cX8_guilty 10 = .ok (.ifCond .eq 12, 3) := by decide +kernel
theorem dX8_guilty_13 : decode cX8_guilty 13 = .ok (.iload_n 2, 1) := by decide +kernel
theorem dX8_guilty_14 : decode cX8_guilty 14 = .ok (.ifCond .lt 8, 3) := by decide +kernel
theorem dX8_guilty_17 : decode cX8_guilty 17 = .ok (.iload_n 2, 1) := by decide +kernel
theorem dX8_guilty_18 : decode cX8_guilty 18 = .ok (.iconst 1, 1) := by decide +kernel
theorem dX8_guilty_19 : decode cX8_guilty 19 = .ok (.if_icmp .le 9, 3) := by decide +kernel
theorem dX8_guilty_22 : decode cX8_guilty 22 = .ok (.aload_n 0, 1) := by decide +kernel
theorem dX8_guilty_23 : decode cX8_guilty 23 = .ok (.iconst 1, 1) := by decide +kernel
theorem dX8_guilty_24 : decode cX8_guilty 24 = .ok (.invokevirtual 298, 3) := by decide +kernel
theorem dX8_guilty_27 : decode cX8_guilty 27 = .ok (.ireturn, 1) := by decide +kernel
theorem dX8_guilty_28 : decode cX8_guilty 28 = .ok (.aload_n 0, 1) := by decide +kernel
theorem dX8_guilty_29 : decode cX8_guilty 29 = .ok (.invokevirtual 410, 3) := by decide +kernel
theorem dX8_guilty_32 : decode cX8_guilty 32 = .ok (.pop, 1) := by decide +kernel
theorem dX8_guilty_33 : decode cX8_guilty 33 = .ok (.iload_n 2, 1) := by decide +kernel
theorem dX8_guilty_34 : decode cX8_guilty 34 = .ok (.ifCond .ne 15, 3) := by decide +kernel
theorem dX8_guilty_37 : decode cX8_guilty 37 = .ok (.aload_n 0, 1) := by decide +kernel
theorem dX8_guilty_38 : decode cX8_guilty 38 = .ok (.getfield 117, 3) := by decide +kernel
theorem dX8_guilty_41 : decode cX8_guilty 41 = .ok (.iload_n 1, 1) := by decide +kernel
theorem dX8_guilty_42 : decode cX8_guilty 42 = .ok (.iaload, 1) := by decide +kernel
theorem dX8_guilty_43 : decode cX8_guilty 43 = .ok (.invokestatic 416, 3) := by decide +kernel
theorem dX8_guilty_46 : decode cX8_guilty 46 = .ok (.goto 9, 3) := by decide +kernel
theorem dX8_guilty_49 : decode cX8_guilty 49 = .ok (.aload_n 0, 1) := by decide +kernel
theorem dX8_guilty_50 : decode cX8_guilty 50 = .ok (.getfield 120, 3) := by decide +kernel
theorem dX8_guilty_53 : decode cX8_guilty 53 = .ok (.iload_n 1, 1) := by decide +kernel
theorem dX8_guilty_54 : decode cX8_guilty 54 = .ok (.iaload, 1) := by decide +kernel
theorem dX8_guilty_55 : decode cX8_guilty 55 = .ok (.ireturn, 1) := by decide +kernel
theorem dX8_news_0 : decode cX8_news 0 = .ok (.aload_n 0, 1) := by decide +kernel
theorem dX8_news_1 : decode cX8_news 1 = .ok (.iconst 0, 1) := by decide +kernel
theorem dX8_news_2 : decode cX8_news 2 = .ok (.putfield 150, 3) := by decide +kernel
theorem dX8_news_5 : decode cX8_news 5 = .ok (.aload_n 0, 1) := by decide +kernel
theorem dX8_news_6 : decode cX8_news 6 = .ok (.iload_n 1, 1) := by decide +kernel
theorem dX8_news_7 : decode cX8_news 7 = .ok (.invokevirtual 424, 3) := by decide +kernel
theorem dX8_news_10 : decode cX8_news 10 = .ok (.ifCond .eq 11, 3) := by decide +kernel
theorem dX8_news_13 : decode cX8_news 13 = .ok (.aload_n 0, 1) := by decide +kernel
theorem dX8_news_14 : decode cX8_news 14 = .ok (.iload_n 2, 1) := by decide +kernel
theorem dX8_news_15 : decode cX8_news 15 = .ok (.invokevirtual 413, 3) := by decide +kernel
theorem dX8_news_18 : decode cX8_news 18 = .ok (.ifCond .ne 9, 3) := by decide +kernel
theorem dX8_news_21 : decode cX8_news 21 = .ok (.aload_n 0, 1) := by decide +kernel
theorem dX8_news_22 : decode cX8_news 22 = .ok (.iconst 1, 1) := by decide +kernel
theorem dX8_news_23 : decode cX8_news 23 = .ok (.invokevirtual 298, 3) := by decide +kernel
theorem dX8_news_26 : decode cX8_news 26 = .ok (.ireturn, 1) := by decide +kernel
theorem dX8_news_27 : decode cX8_news 27 = .ok (.aload_n 0, 1) := by decide +kernel
theorem dX8_news_28 : decode cX8_news 28 = .ok (.invokevirtual 410, 3) := by decide +kernel
theorem dX8_news_31 : decode cX8_news 31 = .ok (.pop, 1) := by decide +kernel
theorem dX8_news_32 : decode cX8_news 32 = .ok (.aload_n 0, 1) := by decide +kernel
theorem dX8_news_33 : decode cX8_news 33 = .ok (.iload_n 1, 1) := by decide +kernel
theorem dX8_news_34 : decode cX8_news 34 = .ok (.iload_n 2, 1) := by decide +kernel
theorem dX8_news_35 : decode cX8_news 35 = .ok (.invokevirtual 369, 3) := by decide +kernel
theorem dX8_news_38 : decode cX8_news 38 = .ok (.istore_n 3, 1) := by decide +kernel
theorem dX8_news_39 : decode cX8_news 39 = .ok (.iconst 0, 1) := by decide +kernel
theorem dX8_news_40 : decode cX8_news 40 = .ok (.istore 4, 2) := by decide +kernel
theorem dX8_news_42 : decode cX8_news 42 = .ok (.iload 4, 2) := by decide +kernel
theorem dX8_news_44 : decode cX8_news 44 = .ok (.aload_n 0, 1) := by decide +kernel
theorem dX8_news_45 : decode cX8_news 45 = .ok (.getfield 34, 3) := by decide +kernel
theorem dX8_news_48 : decode cX8_news 48 = .ok (.iconst 4, 1) := by decide +kernel
theorem dX8_news_49 : decode cX8_news 49 = .ok (.iaload, 1) := by decide +kernel
theorem dX8_news_50 : decode cX8_news 50 = .ok (.if_icmp .ge 22, 3) := by decide +kernel
theorem dX8_news_53 : decode cX8_news 53 = .ok (.iload_n 3, 1) := by decide +kernel
theorem dX8_news_54 : decode cX8_news 54 = .ok (.aload_n 0, 1) := by decide +kernel
theorem dX8_news_55 : decode cX8_news 55 = .ok (.iload_n 1, 1) := by decide +kernel
theorem dX8_news_56 : decode cX8_news 56 = .ok (.iload 4, 2) := by decide +kernel
theorem dX8_news_58 : decode cX8_news 58 = .ok (.iload_n 2, 1) := by decide +kernel
theorem dX8_news_59 : decode cX8_news 59 = .ok (.invokevirtual 372, 3) := by decide +kernel
theorem dX8_news_62 : decode cX8_news 62 = .ok (.invokestatic 187, 3) := by decide +kernel
theorem dX8_news_65 : decode cX8_news 65 = .ok (.istore_n 3, 1) := by decide +kernel
theorem dX8_news_66 : decode cX8_news 66 = .ok (.iinc 4 1, 3) := by decide +kernel
theorem dX8_news_69 : decode cX8_news 69 = .ok (.goto (-27), 3) := by decide +kernel
theorem dX8_news_72 : decode cX8_news 72 = .ok (.iload_n 3, 1) := by decide +kernel
theorem dX8_news_73 : decode cX8_news 73 = .ok (.invokestatic 416, 3) := by decide +kernel
theorem dX8_news_76 : decode cX8_news 76 = .ok (.ireturn, 1) := by decide +kernel
theorem dX8_refuse_0 : decode cX8_refuse 0 = .ok (.aload_n 0, 1) := by decide +kernel
theorem dX8_refuse_1 : decode cX8_refuse 1 = .ok (.getfield 60, 3) := by decide +kernel
theorem dX8_refuse_4 : decode cX8_refuse 4 = .ok (.iload_n 1, 1) := by decide +kernel
theorem dX8_refuse_5 : decode cX8_refuse 5 = .ok (.dup2, 1) := by decide +kernel
theorem dX8_refuse_6 : decode cX8_refuse 6 = .ok (.iaload, 1) := by decide +kernel
theorem dX8_refuse_7 : decode cX8_refuse 7 = .ok (.iconst 1, 1) := by decide +kernel
theorem dX8_refuse_8 : decode cX8_refuse 8 = .ok (.iadd, 1) := by decide +kernel
theorem dX8_refuse_9 : decode cX8_refuse 9 = .ok (.iastore, 1) := by decide +kernel
theorem dX8_refuse_10 : decode cX8_refuse 10 = .ok (.iconst (-1), 1) := by decide +kernel
theorem dX8_refuse_11 : decode cX8_refuse 11 = .ok (.ireturn, 1) := by decide +kernel
theorem dX8_keep_0 : decode cX8_keep 0 = .ok (.aload_n 0, 1) := by decide +kernel
theorem dX8_keep_1 : decode cX8_keep 1 = .ok (.getfield 323, 3) := by decide +kernel
theorem dX8_keep_4 : decode cX8_keep 4 = .ok (.bipush 40, 2) := by decide +kernel
theorem dX8_keep_6 : decode cX8_keep 6 = .ok (.if_icmp .ne 46, 3) := by decide +kernel
theorem dX8_keep_9 : decode cX8_keep 9 = .ok (.bipush 45, 2) := by decide +kernel
theorem dX8_keep_11 : decode cX8_keep 11 = .ok (.istore_n 1, 1) := by decide +kernel
theorem dX8_keep_12 : decode cX8_keep 12 = .ok (.iload_n 1, 1) := by decide +kernel
theorem dX8_keep_13 : decode cX8_keep 13 = .ok (.aload_n 0, 1) := by decide +kernel
theorem dX8_keep_14 : decode cX8_keep 14 = .ok (.getfield 82, 3) := by decide +kernel
theorem dX8_keep_17 : decode cX8_keep 17 = .ok (.arraylength, 1) := by decide +kernel
theorem dX8_keep_18 : decode cX8_keep 18 = .ok (.if_icmp .ge 24, 3) := by decide +kernel
theorem dX8_keep_21 : decode cX8_keep 21 = .ok (.aload_n 0, 1) := by decide +kernel
theorem dX8_keep_22 : decode cX8_keep 22 = .ok (.getfield 82, 3) := by decide +kernel
theorem dX8_keep_25 : decode cX8_keep 25 = .ok (.iload_n 1, 1) := by decide +kernel
theorem dX8_keep_26 : decode cX8_keep 26 = .ok (.bipush 45, 2) := by decide +kernel
theorem dX8_keep_28 : decode cX8_keep 28 = .ok (.isub, 1) := by decide +kernel
theorem dX8_keep_29 : decode cX8_keep 29 = .ok (.aload_n 0, 1) := by decide +kernel
theorem dX8_keep_30 : decode cX8_keep 30 = .ok (.getfield 82, 3) := by decide +kernel
theorem dX8_keep_33 : decode cX8_keep 33 = .ok (.iload_n 1, 1) := by decide +kernel
theorem dX8_keep_34 : decode cX8_keep 34 = .ok (.iaload, 1) := by decide +kernel
theorem dX8_keep_35 : decode cX8_keep 35 = .ok (.iastore, 1) := by decide +kernel
theorem dX8_keep_36 : decode cX8_keep 36 = .ok (.iinc 1 1, 3) := by decide +kernel
theorem dX8_keep_39 : decode cX8_keep 39 = .ok (.goto (-27), 3) := by decide +kernel
theorem dX8_keep_42 : decode cX8_keep 42 = .ok (.aload_n 0, 1) := by decide +kernel
theorem dX8_keep_43 : decode cX8_keep 43 = .ok (.dup, 1) := by decide +kernel
theorem dX8_keep_44 : decode cX8_keep 44 = .ok (.getfield 323, 3) := by decide +kernel
theorem dX8_keep_47 : decode cX8_keep 47 = .ok (.iconst 1, 1) := by decide +kernel
theorem dX8_keep_48 : decode cX8_keep 48 = .ok (.isub, 1) := by decide +kernel
theorem dX8_keep_49 : decode cX8_keep 49 = .ok (.putfield 323, 3) := by decide +kernel
theorem dX8_keep_52 : decode cX8_keep 52 = .ok (.aload_n 0, 1) := by decide +kernel
theorem dX8_keep_53 : decode cX8_keep 53 = .ok (.aload_n 0, 1) := by decide +kernel
theorem dX8_keep_54 : decode cX8_keep 54 = .ok (.getfield 82, 3) := by decide +kernel
theorem dX8_keep_57 : decode cX8_keep 57 = .ok (.bipush 45, 2) := by decide +kernel
theorem dX8_keep_59 : decode cX8_keep 59 = .ok (.aload_n 0, 1) := by decide +kernel
theorem dX8_keep_60 : decode cX8_keep 60 = .ok (.getfield 323, 3) := by decide +kernel
theorem dX8_keep_63 : decode cX8_keep 63 = .ok (.imul, 1) := by decide +kernel
theorem dX8_keep_64 : decode cX8_keep 64 = .ok (.invokevirtual 429, 3) := by decide +kernel
theorem dX8_keep_67 : decode cX8_keep 67 = .ok (.aload_n 0, 1) := by decide +kernel
theorem dX8_keep_68 : decode cX8_keep 68 = .ok (.dup, 1) := by decide +kernel
theorem dX8_keep_69 : decode cX8_keep 69 = .ok (.getfield 323, 3) := by decide +kernel
theorem dX8_keep_72 : decode cX8_keep 72 = .ok (.iconst 1, 1) := by decide +kernel
theorem dX8_keep_73 : decode cX8_keep 73 = .ok (.iadd, 1) := by decide +kernel
theorem dX8_keep_74 : decode cX8_keep 74 = .ok (.putfield 323, 3) := by decide +kernel
theorem dX8_keep_77 : decode cX8_keep 77 = .ok (.return_, 1) := by decide +kernel
def f_X8_count   (I : Mem) (v1 : Int32) : Option (Int32 × Mem) :=
  bnd (upd4 I 8 0 0 2 (0 : Int32)) fun I1' =>
  (if v1 = (0 : Int32) then (some ((I1' 50 0 0 0), I1')) else (if v1 = (1 : Int32) then (some ((I1' 50 0 0 2), I1')) else (if v1 = (2 : Int32) then (some ((I1' 50 0 0 3), I1')) else (if v1 = (3 : Int32) then (some ((I1' 50 0 0 4), I1')) else (if v1 = (4 : Int32) then (some ((I1' 50 0 0 5), I1')) else (if v1 = (5 : Int32) then (some ((I1' 8 0 0 29), I1')) else (if v1 = (6 : Int32) then (some ((I1' 8 0 0 30), I1')) else (if v1 = (7 : Int32) then (some ((I1' 8 0 0 31), I1')) else (if v1 = (8 : Int32) then (some ((I1' 8 0 0 32), I1')) else (if v1 = (9 : Int32) then ((f_X8_tellNow I1').bind fun y1 =>
  some (y1.1, y1.2)) else (if v1 = (10 : Int32) then (some ((I1' 8 0 0 33), I1')) else (if v1 = (11 : Int32) then (some ((I1' 8 0 0 34), I1')) else (if v1 = (12 : Int32) then (some ((I1' 8 0 0 14), I1')) else (if v1 = (13 : Int32) then (gd (inb (v1 - (13 : Int32)) 3) <|
  some ((I1' 59 0 0 ((v1 - (13 : Int32)).toNatClampNeg)), I1')) else (if v1 = (14 : Int32) then (gd (inb (v1 - (13 : Int32)) 3) <|
  some ((I1' 59 0 0 ((v1 - (13 : Int32)).toNatClampNeg)), I1')) else (if v1 = (15 : Int32) then (gd (inb (v1 - (13 : Int32)) 3) <|
  some ((I1' 59 0 0 ((v1 - (13 : Int32)).toNatClampNeg)), I1')) else ((f_X8_fail I1' (1 : Int32)).bind fun y2 =>
  some (y2.1, y2.2))))))))))))))))))
theorem b_X8_count (X : CX) (Q : State → Prop) {I : Mem} {P : PMem} {O : Nat → Int64} {D : Bool} {n : Nat} {v1 : Int32} {r : (Int32 × Mem)}  (h : f_X8_count I v1 = some r) (E : EndR X cX8_count RX8 2 (some .int) 10 n (some (.inl r.1)) r.2 P O D Q) : Here X cX8_count RX8 2 (some .int) 10 n 0 [some (.inr (.inr (8, 0, 0))), some (.inl v1)] [] I P O D n Q := by
  unfold f_X8_count at h
  refine h_aload_n dX8_count_0 rfl ?_
  refine h_iconst (0 : Int32) dX8_count_1 k_iconst_0 ?_
  obtain ⟨I1', e1, h⟩ := bnd_some h
  refine p_X8_150  dX8_count_2 ?_
  refine h_nmI e1 ?_
  refine h_iload_n dX8_count_5 rfl ?_
  by_cases q1 : v1 = (0 : Int32)
  · rw [if_pos q1] at h
    refine h_tswIn (tgt := 84) 0 dX8_count_6 (by rw [q1]; decide) (by decide) rfl (by decide) ?_
    refine h_aload_n dX8_count_84 rfl ?_
    refine g_X8_34  dX8_count_85 ?_
    refine h_iconst (0 : Int32) dX8_count_88 k_iconst_0 ?_
    refine al_50  0 cl_0 dX8_count_89 rfl ?_
    cases h
    exact h_iret dX8_count_90 rfl E
  · rw [if_neg q1] at h
    by_cases q2 : v1 = (1 : Int32)
    · rw [if_pos q2] at h
      refine h_tswIn (tgt := 91) 1 dX8_count_6 (by rw [q2]; decide) (by decide) rfl (by decide) ?_
      refine h_aload_n dX8_count_91 rfl ?_
      refine g_X8_34  dX8_count_92 ?_
      refine h_iconst (2 : Int32) dX8_count_95 k_iconst_2 ?_
      refine al_50  2 cl_2 dX8_count_96 rfl ?_
      cases h
      exact h_iret dX8_count_97 rfl E
    · rw [if_neg q2] at h
      by_cases q3 : v1 = (2 : Int32)
      · rw [if_pos q3] at h
        refine h_tswIn (tgt := 98) 2 dX8_count_6 (by rw [q3]; decide) (by decide) rfl (by decide) ?_
        refine h_aload_n dX8_count_98 rfl ?_
        refine g_X8_34  dX8_count_99 ?_
        refine h_iconst (3 : Int32) dX8_count_102 k_iconst_3 ?_
        refine al_50  3 cl_3 dX8_count_103 rfl ?_
        cases h
        exact h_iret dX8_count_104 rfl E
      · rw [if_neg q3] at h
        by_cases q4 : v1 = (3 : Int32)
        · rw [if_pos q4] at h
          refine h_tswIn (tgt := 105) 3 dX8_count_6 (by rw [q4]; decide) (by decide) rfl (by decide) ?_
          refine h_aload_n dX8_count_105 rfl ?_
          refine g_X8_34  dX8_count_106 ?_
          refine h_iconst (4 : Int32) dX8_count_109 k_iconst_4 ?_
          refine al_50  4 cl_4 dX8_count_110 rfl ?_
          cases h
          exact h_iret dX8_count_111 rfl E
        · rw [if_neg q4] at h
          by_cases q5 : v1 = (4 : Int32)
          · rw [if_pos q5] at h
            refine h_tswIn (tgt := 112) 4 dX8_count_6 (by rw [q5]; decide) (by decide) rfl (by decide) ?_
            refine h_aload_n dX8_count_112 rfl ?_
            refine g_X8_34  dX8_count_113 ?_
            refine h_iconst (5 : Int32) dX8_count_116 k_iconst_5 ?_
            refine al_50  5 cl_5 dX8_count_117 rfl ?_
            cases h
            exact h_iret dX8_count_118 rfl E
          · rw [if_neg q5] at h
            by_cases q6 : v1 = (5 : Int32)
            · rw [if_pos q6] at h
              refine h_tswIn (tgt := 119) 5 dX8_count_6 (by rw [q6]; decide) (by decide) rfl (by decide) ?_
              refine h_aload_n dX8_count_119 rfl ?_
              refine g_X8_311  dX8_count_120 ?_
              cases h
              exact h_iret dX8_count_123 rfl E
            · rw [if_neg q6] at h
              by_cases q7 : v1 = (6 : Int32)
              · rw [if_pos q7] at h
                refine h_tswIn (tgt := 124) 6 dX8_count_6 (by rw [q7]; decide) (by decide) rfl (by decide) ?_
                refine h_aload_n dX8_count_124 rfl ?_
                refine g_X8_314  dX8_count_125 ?_
                cases h
                exact h_iret dX8_count_128 rfl E
              · rw [if_neg q7] at h
                by_cases q8 : v1 = (7 : Int32)
                · rw [if_pos q8] at h
                  refine h_tswIn (tgt := 129) 7 dX8_count_6 (by rw [q8]; decide) (by decide) rfl (by decide) ?_
                  refine h_aload_n dX8_count_129 rfl ?_
                  refine g_X8_317  dX8_count_130 ?_
                  cases h
                  exact h_iret dX8_count_133 rfl E
                · rw [if_neg q8] at h
                  by_cases q9 : v1 = (8 : Int32)
                  · rw [if_pos q9] at h
                    refine h_tswIn (tgt := 134) 8 dX8_count_6 (by rw [q9]; decide) (by decide) rfl (by decide) ?_
                    refine h_aload_n dX8_count_134 rfl ?_
                    refine g_X8_320  dX8_count_135 ?_
                    cases h
                    exact h_iret dX8_count_138 rfl E
                  · rw [if_neg q9] at h
                    by_cases q10 : v1 = (9 : Int32)
                    · rw [if_pos q10] at h
                      refine h_tswIn (tgt := 139) 9 dX8_count_6 (by rw [q10]; decide) (by decide) rfl (by decide) ?_
                      refine h_aload_n dX8_count_139 rfl ?_
                      obtain ⟨y1, hh1, h⟩ := obd_some h
                      refine h_cVi [] (m_X8_tellNow  hh1) cw_X8_410 dX8_count_140 rfl ok_8 (by decide) rfl (Or.inr rfl) rfl ?_
                      cases h
                      exact h_iret dX8_count_143 rfl E
                    · rw [if_neg q10] at h
                      by_cases q11 : v1 = (10 : Int32)
                      · rw [if_pos q11] at h
                        refine h_tswIn (tgt := 144) 10 dX8_count_6 (by rw [q11]; decide) (by decide) rfl (by decide) ?_
                        refine h_aload_n dX8_count_144 rfl ?_
                        refine g_X8_323  dX8_count_145 ?_
                        cases h
                        exact h_iret dX8_count_148 rfl E
                      · rw [if_neg q11] at h
                        by_cases q12 : v1 = (11 : Int32)
                        · rw [if_pos q12] at h
                          refine h_tswIn (tgt := 149) 11 dX8_count_6 (by rw [q12]; decide) (by decide) rfl (by decide) ?_
                          refine h_aload_n dX8_count_149 rfl ?_
                          refine g_X8_326  dX8_count_150 ?_
                          cases h
                          exact h_iret dX8_count_153 rfl E
                        · rw [if_neg q12] at h
                          by_cases q13 : v1 = (12 : Int32)
                          · rw [if_pos q13] at h
                            refine h_tswIn (tgt := 154) 12 dX8_count_6 (by rw [q13]; decide) (by decide) rfl (by decide) ?_
                            refine h_aload_n dX8_count_154 rfl ?_
                            refine g_X8_157  dX8_count_155 ?_
                            cases h
                            exact h_iret dX8_count_158 rfl E
                          · rw [if_neg q13] at h
                            by_cases q14 : v1 = (13 : Int32)
                            · rw [if_pos q14] at h
                              refine h_tswIn (tgt := 159) 13 dX8_count_6 (by rw [q14]; decide) (by decide) rfl (by decide) ?_
                              refine h_aload_n dX8_count_159 rfl ?_
                              refine g_X8_60  dX8_count_160 ?_
                              refine h_iload_n dX8_count_163 rfl ?_
                              refine h_bipush (13 : Int32) dX8_count_164 k_bipush_13 ?_
                              refine h_isub dX8_count_166 ?_
                              obtain ⟨g1, h⟩ := gd_some h
                              refine al_59  ((v1 - (13 : Int32)).toNatClampNeg) rfl dX8_count_167 g1 ?_
                              cases h
                              exact h_iret dX8_count_168 rfl E
                            · rw [if_neg q14] at h
                              by_cases q15 : v1 = (14 : Int32)
                              · rw [if_pos q15] at h
                                refine h_tswIn (tgt := 159) 14 dX8_count_6 (by rw [q15]; decide) (by decide) rfl (by decide) ?_
                                refine h_aload_n dX8_count_159 rfl ?_
                                refine g_X8_60  dX8_count_160 ?_
                                refine h_iload_n dX8_count_163 rfl ?_
                                refine h_bipush (13 : Int32) dX8_count_164 k_bipush_13 ?_
                                refine h_isub dX8_count_166 ?_
                                obtain ⟨g2, h⟩ := gd_some h
                                refine al_59  ((v1 - (13 : Int32)).toNatClampNeg) rfl dX8_count_167 g2 ?_
                                cases h
                                exact h_iret dX8_count_168 rfl E
                              · rw [if_neg q15] at h
                                by_cases q16 : v1 = (15 : Int32)
                                · rw [if_pos q16] at h
                                  refine h_tswIn (tgt := 159) 15 dX8_count_6 (by rw [q16]; decide) (by decide) rfl (by decide) ?_
                                  refine h_aload_n dX8_count_159 rfl ?_
                                  refine g_X8_60  dX8_count_160 ?_
                                  refine h_iload_n dX8_count_163 rfl ?_
                                  refine h_bipush (13 : Int32) dX8_count_164 k_bipush_13 ?_
                                  refine h_isub dX8_count_166 ?_
                                  obtain ⟨g3, h⟩ := gd_some h
                                  refine al_59  ((v1 - (13 : Int32)).toNatClampNeg) rfl dX8_count_167 g3 ?_
                                  cases h
                                  exact h_iret dX8_count_168 rfl E
                                · rw [if_neg q16] at h
                                  refine h_tswOut (tgt := 169) dX8_count_6 ?_ (by decide) ?_
                                  · have n0 : v1.toInt ≠ 0 := fun e => q1 (Int32.toInt_inj.mp (e.trans (by decide)))
                                    have n1 : v1.toInt ≠ 1 := fun e => q2 (Int32.toInt_inj.mp (e.trans (by decide)))
                                    have n2 : v1.toInt ≠ 2 := fun e => q3 (Int32.toInt_inj.mp (e.trans (by decide)))
                                    have n3 : v1.toInt ≠ 3 := fun e => q4 (Int32.toInt_inj.mp (e.trans (by decide)))
                                    have n4 : v1.toInt ≠ 4 := fun e => q5 (Int32.toInt_inj.mp (e.trans (by decide)))
                                    have n5 : v1.toInt ≠ 5 := fun e => q6 (Int32.toInt_inj.mp (e.trans (by decide)))
                                    have n6 : v1.toInt ≠ 6 := fun e => q7 (Int32.toInt_inj.mp (e.trans (by decide)))
                                    have n7 : v1.toInt ≠ 7 := fun e => q8 (Int32.toInt_inj.mp (e.trans (by decide)))
                                    have n8 : v1.toInt ≠ 8 := fun e => q9 (Int32.toInt_inj.mp (e.trans (by decide)))
                                    have n9 : v1.toInt ≠ 9 := fun e => q10 (Int32.toInt_inj.mp (e.trans (by decide)))
                                    have n10 : v1.toInt ≠ 10 := fun e => q11 (Int32.toInt_inj.mp (e.trans (by decide)))
                                    have n11 : v1.toInt ≠ 11 := fun e => q12 (Int32.toInt_inj.mp (e.trans (by decide)))
                                    have n12 : v1.toInt ≠ 12 := fun e => q13 (Int32.toInt_inj.mp (e.trans (by decide)))
                                    have n13 : v1.toInt ≠ 13 := fun e => q14 (Int32.toInt_inj.mp (e.trans (by decide)))
                                    have n14 : v1.toInt ≠ 14 := fun e => q15 (Int32.toInt_inj.mp (e.trans (by decide)))
                                    have n15 : v1.toInt ≠ 15 := fun e => q16 (Int32.toInt_inj.mp (e.trans (by decide)))
                                    omega
                                  · refine h_aload_n dX8_count_169 rfl ?_
                                    refine h_iconst (1 : Int32) dX8_count_170 k_iconst_1 ?_
                                    obtain ⟨y2, hh2, h⟩ := obd_some h
                                    refine h_cVi [.inl (1 : Int32)] (m_X8_fail  hh2) cw_X8_298 dX8_count_171 rfl ok_8 (by decide) rfl (Or.inr rfl) rfl ?_
                                    cases h
                                    exact h_iret dX8_count_174 rfl E
theorem m_X8_count {I : Mem} {P : PMem} {O : Nat → Int64} {D : Bool} {n : Nat} {v1 : Int32} {r : (Int32 × Mem)}  (h : f_X8_count I v1 = some r) : MethR yX8_count cX8_count 2 (some .int) 10 [.inr (.inr (8, 0, 0)), .inl v1] I P O D n (some (.inl r.1)) r.2 P O D n := meth_R (Nat.le_refl _) (by decide) rfl (Nat.le_of_ble_eq_true rfl) rfl (fun X Q E => b_X8_count X Q  h E)
def f_X8_far_59   (I : Mem) (s0 : Int32) : Option (Int32 × Mem) :=
  (f_X8_orNone I s0).bind fun y1 =>
  some (y1, I)
theorem b_X8_far_59 (X : CX) (Q : State → Prop) {I : Mem} {P : PMem} {O : Nat → Int64} {D : Bool} {n : Nat} {s0 : Int32} {r : (Int32 × Mem)}  (h : f_X8_far_59 I s0 = some r) (E : EndR X cX8_far RX8 4 (some .int) 4 n (some (.inl r.1)) r.2 P O D Q) : Here X cX8_far RX8 4 (some .int) 4 n 59 [none, none, none, none] [.inl s0] I P O D n Q := by
  unfold f_X8_far_59 at h
  obtain ⟨y1, hh1, h⟩ := obd_some h
  refine h_cSi [.inl s0] (m_X8_orNone  hh1) cs_X8_416 dX8_far_59 rfl (by decide) rfl (Or.inr rfl) rfl ?_
  cases h
  exact h_iret dX8_far_62 rfl E
def f_X8_far_30   (I : Mem) : Option (Int32 × Mem) :=
  (f_X8_fail I (1 : Int32)).bind fun y1 =>
  some (y1.1, y1.2)
theorem b_X8_far_30 (X : CX) (Q : State → Prop) {I : Mem} {P : PMem} {O : Nat → Int64} {D : Bool} {n : Nat} {r : (Int32 × Mem)}  (h : f_X8_far_30 I = some r) (E : EndR X cX8_far RX8 4 (some .int) 4 n (some (.inl r.1)) r.2 P O D Q) : Here X cX8_far RX8 4 (some .int) 4 n 30 [some (.inr (.inr (8, 0, 0))), none, none, none] [] I P O D n Q := by
  unfold f_X8_far_30 at h
  refine h_aload_n dX8_far_30 rfl ?_
  refine h_iconst (1 : Int32) dX8_far_31 k_iconst_1 ?_
  obtain ⟨y1, hh1, h⟩ := obd_some h
  refine h_cVi [.inl (1 : Int32)] (m_X8_fail  hh1) cw_X8_298 dX8_far_32 rfl ok_8 (by decide) rfl (Or.inr rfl) rfl ?_
  cases h
  exact h_iret dX8_far_35 rfl E
def f_X8_far   (I : Mem) (v1 : Int32) (v2 : Int32) (v3 : Int32) : Option (Int32 × Mem) :=
  bnd (upd4 I 8 0 0 2 (0 : Int32)) fun I1' =>
  (f_X8_isTown I1' v1).bind fun y1 =>
  if y1 = 0 then (f_X8_far_30 I1') else ((f_X8_isTown I1' v2).bind fun y2 =>
  if y2 = 0 then (f_X8_far_30 I1') else (if v3 < 0 then (f_X8_far_30 I1') else (if v3 ≤ (1 : Int32) then (if v3 = 0 then ((f_X8_couple I1' v1 v2).bind fun y4 =>
  gd (inb y4 81) <|
  f_X8_far_59 I1' (I1' 61 0 0 y4.toNatClampNeg)) else ((f_X8_newsDays I1' v1 v2).bind fun y3 =>
  f_X8_far_59 I1' y3)) else (f_X8_far_30 I1'))))
theorem b_X8_far (X : CX) (Q : State → Prop) {I : Mem} {P : PMem} {O : Nat → Int64} {D : Bool} {n : Nat} {v1 : Int32} {v2 : Int32} {v3 : Int32} {r : (Int32 × Mem)}  (h : f_X8_far I v1 v2 v3 = some r) (E : EndR X cX8_far RX8 4 (some .int) 4 n (some (.inl r.1)) r.2 P O D Q) : Here X cX8_far RX8 4 (some .int) 4 n 0 [some (.inr (.inr (8, 0, 0))), some (.inl v1), some (.inl v2), some (.inl v3)] [] I P O D n Q := by
  unfold f_X8_far at h
  refine h_aload_n dX8_far_0 rfl ?_
  refine h_iconst (0 : Int32) dX8_far_1 k_iconst_0 ?_
  obtain ⟨I1', e1, h⟩ := bnd_some h
  refine p_X8_150  dX8_far_2 ?_
  refine h_nmI e1 ?_
  refine h_aload_n dX8_far_5 rfl ?_
  refine h_iload_n dX8_far_6 rfl ?_
  obtain ⟨y1, hh1, h⟩ := obd_some h
  refine h_cVi [.inl v1] (m_X8_isTown  hh1) cw_X8_413 dX8_far_7 rfl ok_8 (by decide) rfl (Or.inr rfl) rfl ?_
  refine h_if_eq (tgt := 30) dX8_far_10 (by decide) (fun q1 => ?_) (fun q1 => ?_)
  · rw [if_pos q1] at h
    exact h_mask [true, false, false, false] (b_X8_far_30 X Q  h E)
  · rw [if_neg q1] at h
    refine h_aload_n dX8_far_13 rfl ?_
    refine h_iload_n dX8_far_14 rfl ?_
    obtain ⟨y2, hh2, h⟩ := obd_some h
    refine h_cVi [.inl v2] (m_X8_isTown  hh2) cw_X8_413 dX8_far_15 rfl ok_8 (by decide) rfl (Or.inr rfl) rfl ?_
    refine h_if_eq (tgt := 30) dX8_far_18 (by decide) (fun q2 => ?_) (fun q2 => ?_)
    · rw [if_pos q2] at h
      exact h_mask [true, false, false, false] (b_X8_far_30 X Q  h E)
    · rw [if_neg q2] at h
      refine h_iload_n dX8_far_21 rfl ?_
      refine h_if_lt (tgt := 30) dX8_far_22 (by decide) (fun q3 => ?_) (fun q3 => ?_)
      · rw [if_pos q3] at h
        exact h_mask [true, false, false, false] (b_X8_far_30 X Q  h E)
      · rw [if_neg q3] at h
        refine h_iload_n dX8_far_25 rfl ?_
        refine h_iconst (1 : Int32) dX8_far_26 k_iconst_1 ?_
        refine h_icmp_le (tgt := 36) dX8_far_27 (by decide) (fun q4 => ?_) (fun q4 => ?_)
        · rw [if_pos q4] at h
          refine h_iload_n dX8_far_36 rfl ?_
          refine h_if_ne (tgt := 53) dX8_far_37 (by decide) (fun q5 => ?_) (fun q5 => ?_)
          · rw [if_neg q5] at h
            refine h_aload_n dX8_far_53 rfl ?_
            refine h_iload_n dX8_far_54 rfl ?_
            refine h_iload_n dX8_far_55 rfl ?_
            obtain ⟨y3, hh3, h⟩ := obd_some h
            refine h_cVi [.inl v1, .inl v2] (m_X8_newsDays  hh3) cw_X8_366 dX8_far_56 rfl ok_8 (by decide) rfl (Or.inr rfl) rfl ?_
            exact h_mask [false, false, false, false] (b_X8_far_59 X Q  h E)
          · rw [if_pos q5] at h
            refine h_aload_n dX8_far_40 rfl ?_
            refine g_X8_70  dX8_far_41 ?_
            refine h_iload_n dX8_far_44 rfl ?_
            refine h_iload_n dX8_far_45 rfl ?_
            obtain ⟨y4, hh4, h⟩ := obd_some h
            refine h_cSi [.inl v1, .inl v2] (m_X8_couple  hh4) cs_X8_276 dX8_far_46 rfl (by decide) rfl (Or.inr rfl) rfl ?_
            obtain ⟨g1, h⟩ := gd_some h
            refine al_61  y4.toNatClampNeg rfl dX8_far_49 g1 ?_
            refine h_goto (tgt := 59) dX8_far_50 (by decide) ?_
            exact h_mask [false, false, false, false] (b_X8_far_59 X Q  h E)
        · rw [if_neg q4] at h
          exact h_mask [true, false, false, false] (b_X8_far_30 X Q  h E)
theorem m_X8_far {I : Mem} {P : PMem} {O : Nat → Int64} {D : Bool} {n : Nat} {v1 : Int32} {v2 : Int32} {v3 : Int32} {r : (Int32 × Mem)}  (h : f_X8_far I v1 v2 v3 = some r) : MethR yX8_far cX8_far 4 (some .int) 4 [.inr (.inr (8, 0, 0)), .inl v1, .inl v2, .inl v3] I P O D n (some (.inl r.1)) r.2 P O D n := meth_R (Nat.le_refl _) (by decide) rfl (Nat.le_of_ble_eq_true rfl) rfl (fun X Q E => b_X8_far X Q  h E)
def f_X8_judge_25   (I : Mem) : Option (Int32 × Mem) :=
  (f_X8_fail I (1 : Int32)).bind fun y1 =>
  some (y1.1, y1.2)
theorem b_X8_judge_25 (X : CX) (Q : State → Prop) {I : Mem} {P : PMem} {O : Nat → Int64} {D : Bool} {n : Nat} {r : (Int32 × Mem)}  (h : f_X8_judge_25 I = some r) (E : EndR X cX8_judge RX8 3 (some .int) 4 n (some (.inl r.1)) r.2 P O D Q) : Here X cX8_judge RX8 3 (some .int) 4 n 25 [some (.inr (.inr (8, 0, 0))), none, none] [] I P O D n Q := by
  unfold f_X8_judge_25 at h
  refine h_aload_n dX8_judge_25 rfl ?_
  refine h_iconst (1 : Int32) dX8_judge_26 k_iconst_1 ?_
  obtain ⟨y1, hh1, h⟩ := obd_some h
  refine h_cVi [.inl (1 : Int32)] (m_X8_fail  hh1) cw_X8_298 dX8_judge_27 rfl ok_8 (by decide) rfl (Or.inr rfl) rfl ?_
  cases h
  exact h_iret dX8_judge_30 rfl E
def f_X8_judge   (I : Mem) (v1 : Int32) (v2 : Int32) : Option (Int32 × Mem) :=
  bnd (upd4 I 8 0 0 2 (0 : Int32)) fun I1' =>
  (f_X8_isJudge I1' v1).bind fun y1 =>
  if y1 = 0 then (f_X8_judge_25 I1') else ((f_X8_isIn I1' v2.toInt64 (0 : Int64) (4 : Int64)).bind fun y2 =>
  if y2 = 0 then (f_X8_judge_25 I1') else (if v2 = (4 : Int32) then ((f_X8_set I1').bind fun y3 =>
  (f_X8_tellStops y3).bind fun y4 =>
  gd (inb v1 10) <|
  gd (inb ((((7 : Int32) * v1) + (y4 55 0 0 v1.toNatClampNeg)) - (1 : Int32)) 35) <|
  some ((y4 69 0 0 (((((7 : Int32) * v1) + (y4 55 0 0 v1.toNatClampNeg)) - (1 : Int32)).toNatClampNeg)), y4)) else (if v2 = 0 then (gd (inb v1 10) <|
  some ((I1' 52 0 0 v1.toNatClampNeg), I1')) else (if v2 = (1 : Int32) then (gd (inb v1 10) <|
  some ((I1' 53 0 0 v1.toNatClampNeg), I1')) else (if v2 = (2 : Int32) then (gd (inb v1 10) <|
  some ((I1' 54 0 0 v1.toNatClampNeg), I1')) else (gd (inb v1 10) <|
  some ((I1' 55 0 0 v1.toNatClampNeg), I1')))))))
theorem b_X8_judge (X : CX) (Q : State → Prop) {I : Mem} {P : PMem} {O : Nat → Int64} {D : Bool} {n : Nat} {v1 : Int32} {v2 : Int32} {r : (Int32 × Mem)}  (h : f_X8_judge I v1 v2 = some r) (E : EndR X cX8_judge RX8 3 (some .int) 4 n (some (.inl r.1)) r.2 P O D Q) : Here X cX8_judge RX8 3 (some .int) 4 n 0 [some (.inr (.inr (8, 0, 0))), some (.inl v1), some (.inl v2)] [] I P O D n Q := by
  unfold f_X8_judge at h
  refine h_aload_n dX8_judge_0 rfl ?_
  refine h_iconst (0 : Int32) dX8_judge_1 k_iconst_0 ?_
  obtain ⟨I1', e1, h⟩ := bnd_some h
  refine p_X8_150  dX8_judge_2 ?_
  refine h_nmI e1 ?_
  refine h_aload_n dX8_judge_5 rfl ?_
  refine h_iload_n dX8_judge_6 rfl ?_
  obtain ⟨y1, hh1, h⟩ := obd_some h
  refine h_cVi [.inl v1] (m_X8_isJudge  hh1) cw_X8_419 dX8_judge_7 rfl ok_8 (by decide) rfl (Or.inr rfl) rfl ?_
  refine h_if_eq (tgt := 25) dX8_judge_10 (by decide) (fun q1 => ?_) (fun q1 => ?_)
  · rw [if_pos q1] at h
    exact h_mask [true, false, false] (b_X8_judge_25 X Q  h E)
  · rw [if_neg q1] at h
    refine h_iload_n dX8_judge_13 rfl ?_
    refine h_i2l dX8_judge_14 ?_
    refine h_lconst 0 dX8_judge_15 rfl ?_
    refine h_ldc2 4 dX8_judge_16 kl_X8_422 ?_
    obtain ⟨y2, hh2, h⟩ := obd_some h
    refine h_cSi [.inr (.inl v2.toInt64), .inr (.inl (0 : Int64)), .inr (.inl (4 : Int64))] (m_X8_isIn  hh2) cs_X8_153 dX8_judge_19 rfl (by decide) rfl (Or.inr rfl) rfl ?_
    refine h_if_ne (tgt := 31) dX8_judge_22 (by decide) (fun q2 => ?_) (fun q2 => ?_)
    · rw [if_neg q2] at h
      refine h_iload_n dX8_judge_31 rfl ?_
      refine h_iconst (4 : Int32) dX8_judge_32 k_iconst_4 ?_
      refine h_icmp_ne (tgt := 63) dX8_judge_33 (by decide) (fun q3 => ?_) (fun q3 => ?_)
      · rw [if_neg q3] at h
        refine h_iload_n dX8_judge_63 rfl ?_
        refine h_if_ne (tgt := 76) dX8_judge_64 (by decide) (fun q4 => ?_) (fun q4 => ?_)
        · rw [if_neg q4] at h
          refine h_iload_n dX8_judge_76 rfl ?_
          refine h_iconst (1 : Int32) dX8_judge_77 k_iconst_1 ?_
          refine h_icmp_ne (tgt := 90) dX8_judge_78 (by decide) (fun q5 => ?_) (fun q5 => ?_)
          · rw [if_neg q5] at h
            refine h_iload_n dX8_judge_90 rfl ?_
            refine h_iconst (2 : Int32) dX8_judge_91 k_iconst_2 ?_
            refine h_icmp_ne (tgt := 104) dX8_judge_92 (by decide) (fun q6 => ?_) (fun q6 => ?_)
            · rw [if_neg q6] at h
              refine h_aload_n dX8_judge_104 rfl ?_
              refine g_X8_49  dX8_judge_105 ?_
              refine h_iload_n dX8_judge_108 rfl ?_
              obtain ⟨g1, h⟩ := gd_some h
              refine al_55  v1.toNatClampNeg rfl dX8_judge_109 g1 ?_
              cases h
              exact h_iret dX8_judge_110 rfl E
            · rw [if_pos q6] at h
              refine h_aload_n dX8_judge_95 rfl ?_
              refine g_X8_47  dX8_judge_96 ?_
              refine h_iload_n dX8_judge_99 rfl ?_
              obtain ⟨g2, h⟩ := gd_some h
              refine al_54  v1.toNatClampNeg rfl dX8_judge_100 g2 ?_
              refine h_goto (tgt := 110) dX8_judge_101 (by decide) ?_
              cases h
              exact h_iret dX8_judge_110 rfl E
          · rw [if_pos q5] at h
            refine h_aload_n dX8_judge_81 rfl ?_
            refine g_X8_44  dX8_judge_82 ?_
            refine h_iload_n dX8_judge_85 rfl ?_
            obtain ⟨g3, h⟩ := gd_some h
            refine al_53  v1.toNatClampNeg rfl dX8_judge_86 g3 ?_
            refine h_goto (tgt := 110) dX8_judge_87 (by decide) ?_
            cases h
            exact h_iret dX8_judge_110 rfl E
        · rw [if_pos q4] at h
          refine h_aload_n dX8_judge_67 rfl ?_
          refine g_X8_41  dX8_judge_68 ?_
          refine h_iload_n dX8_judge_71 rfl ?_
          obtain ⟨g4, h⟩ := gd_some h
          refine al_52  v1.toNatClampNeg rfl dX8_judge_72 g4 ?_
          refine h_goto (tgt := 110) dX8_judge_73 (by decide) ?_
          cases h
          exact h_iret dX8_judge_110 rfl E
      · rw [if_pos q3] at h
        refine h_aload_n dX8_judge_36 rfl ?_
        obtain ⟨y3, hh3, h⟩ := obd_some h
        refine h_cVv [] (m_X8_set  hh3) cw_X8_404 dX8_judge_37 rfl ok_8 (by decide) rfl (Or.inr rfl) rfl ?_
        refine h_aload_n dX8_judge_40 rfl ?_
        obtain ⟨y4, hh4, h⟩ := obd_some h
        refine h_cVv [] (m_X8_tellStops  hh4) cw_X8_388 dX8_judge_41 rfl ok_8 (by decide) rfl (Or.inr rfl) rfl ?_
        refine h_aload_n dX8_judge_44 rfl ?_
        refine g_X8_94  dX8_judge_45 ?_
        refine h_bipush (7 : Int32) dX8_judge_48 k_bipush_7 ?_
        refine h_iload_n dX8_judge_50 rfl ?_
        refine h_imul dX8_judge_51 ?_
        refine h_aload_n dX8_judge_52 rfl ?_
        refine g_X8_49  dX8_judge_53 ?_
        refine h_iload_n dX8_judge_56 rfl ?_
        obtain ⟨g5, h⟩ := gd_some h
        refine al_55  v1.toNatClampNeg rfl dX8_judge_57 g5 ?_
        refine h_iadd dX8_judge_58 ?_
        refine h_iconst (1 : Int32) dX8_judge_59 k_iconst_1 ?_
        refine h_isub dX8_judge_60 ?_
        obtain ⟨g6, h⟩ := gd_some h
        refine al_69  (((((7 : Int32) * v1) + (y4 55 0 0 v1.toNatClampNeg)) - (1 : Int32)).toNatClampNeg) rfl dX8_judge_61 g6 ?_
        cases h
        exact h_iret dX8_judge_62 rfl E
    · rw [if_pos q2] at h
      exact h_mask [true, false, false] (b_X8_judge_25 X Q  h E)
theorem m_X8_judge {I : Mem} {P : PMem} {O : Nat → Int64} {D : Bool} {n : Nat} {v1 : Int32} {v2 : Int32} {r : (Int32 × Mem)}  (h : f_X8_judge I v1 v2 = some r) : MethR yX8_judge cX8_judge 3 (some .int) 4 [.inr (.inr (8, 0, 0)), .inl v1, .inl v2] I P O D n (some (.inl r.1)) r.2 P O D n := meth_R (Nat.le_refl _) (by decide) rfl (Nat.le_of_ble_eq_true rfl) rfl (fun X Q E => b_X8_judge X Q  h E)
def f_X8_stop_40   (I : Mem) : Option (Int32 × Mem) :=
  (f_X8_fail I (1 : Int32)).bind fun y1 =>
  some (y1.1, y1.2)
theorem b_X8_stop_40 (X : CX) (Q : State → Prop) {I : Mem} {P : PMem} {O : Nat → Int64} {D : Bool} {n : Nat} {r : (Int32 × Mem)}  (h : f_X8_stop_40 I = some r) (E : EndR X cX8_stop RX8 4 (some .int) 4 n (some (.inl r.1)) r.2 P O D Q) : Here X cX8_stop RX8 4 (some .int) 4 n 40 [some (.inr (.inr (8, 0, 0))), none, none, none] [] I P O D n Q := by
  unfold f_X8_stop_40 at h
  refine h_aload_n dX8_stop_40 rfl ?_
  refine h_iconst (1 : Int32) dX8_stop_41 k_iconst_1 ?_
  obtain ⟨y1, hh1, h⟩ := obd_some h
  refine h_cVi [.inl (1 : Int32)] (m_X8_fail  hh1) cw_X8_298 dX8_stop_42 rfl ok_8 (by decide) rfl (Or.inr rfl) rfl ?_
  cases h
  exact h_iret dX8_stop_45 rfl E
def f_X8_stop   (I : Mem) (v1 : Int32) (v2 : Int32) (v3 : Int32) : Option (Int32 × Mem) :=
  bnd (upd4 I 8 0 0 2 (0 : Int32)) fun I1' =>
  (f_X8_isJudge I1' v1).bind fun y1 =>
  if y1 = 0 then (f_X8_stop_40 I1') else (gd (inb v1 10) <|
  (f_X8_isIn I1' v2.toInt64 (0 : Int64) (((I1' 55 0 0 v1.toNatClampNeg) - (1 : Int32)).toInt64)).bind fun y2 =>
  if y2 = 0 then (f_X8_stop_40 I1') else (if v3 < 0 then (f_X8_stop_40 I1') else (if v3 ≤ (1 : Int32) then ((f_X8_set I1').bind fun y3 =>
  (f_X8_tellStops y3).bind fun y4 =>
  if v3 = 0 then (gd (inb (((7 : Int32) * v1) + v2) 35) <|
  some ((y4 68 0 0 ((((7 : Int32) * v1) + v2).toNatClampNeg)), y4)) else (gd (inb (((7 : Int32) * v1) + v2) 35) <|
  some ((y4 69 0 0 ((((7 : Int32) * v1) + v2).toNatClampNeg)), y4))) else (f_X8_stop_40 I1'))))
theorem b_X8_stop (X : CX) (Q : State → Prop) {I : Mem} {P : PMem} {O : Nat → Int64} {D : Bool} {n : Nat} {v1 : Int32} {v2 : Int32} {v3 : Int32} {r : (Int32 × Mem)}  (h : f_X8_stop I v1 v2 v3 = some r) (E : EndR X cX8_stop RX8 4 (some .int) 4 n (some (.inl r.1)) r.2 P O D Q) : Here X cX8_stop RX8 4 (some .int) 4 n 0 [some (.inr (.inr (8, 0, 0))), some (.inl v1), some (.inl v2), some (.inl v3)] [] I P O D n Q := by
  unfold f_X8_stop at h
  refine h_aload_n dX8_stop_0 rfl ?_
  refine h_iconst (0 : Int32) dX8_stop_1 k_iconst_0 ?_
  obtain ⟨I1', e1, h⟩ := bnd_some h
  refine p_X8_150  dX8_stop_2 ?_
  refine h_nmI e1 ?_
  refine h_aload_n dX8_stop_5 rfl ?_
  refine h_iload_n dX8_stop_6 rfl ?_
  obtain ⟨y1, hh1, h⟩ := obd_some h
  refine h_cVi [.inl v1] (m_X8_isJudge  hh1) cw_X8_419 dX8_stop_7 rfl ok_8 (by decide) rfl (Or.inr rfl) rfl ?_
  refine h_if_eq (tgt := 40) dX8_stop_10 (by decide) (fun q1 => ?_) (fun q1 => ?_)
  · rw [if_pos q1] at h
    exact h_mask [true, false, false, false] (b_X8_stop_40 X Q  h E)
  · rw [if_neg q1] at h
    refine h_iload_n dX8_stop_13 rfl ?_
    refine h_i2l dX8_stop_14 ?_
    refine h_lconst 0 dX8_stop_15 rfl ?_
    refine h_aload_n dX8_stop_16 rfl ?_
    refine g_X8_49  dX8_stop_17 ?_
    refine h_iload_n dX8_stop_20 rfl ?_
    obtain ⟨g1, h⟩ := gd_some h
    refine al_55  v1.toNatClampNeg rfl dX8_stop_21 g1 ?_
    refine h_iconst (1 : Int32) dX8_stop_22 k_iconst_1 ?_
    refine h_isub dX8_stop_23 ?_
    refine h_i2l dX8_stop_24 ?_
    obtain ⟨y2, hh2, h⟩ := obd_some h
    refine h_cSi [.inr (.inl v2.toInt64), .inr (.inl (0 : Int64)), .inr (.inl (((I1' 55 0 0 v1.toNatClampNeg) - (1 : Int32)).toInt64))] (m_X8_isIn  hh2) cs_X8_153 dX8_stop_25 rfl (by decide) rfl (Or.inr rfl) rfl ?_
    refine h_if_eq (tgt := 40) dX8_stop_28 (by decide) (fun q2 => ?_) (fun q2 => ?_)
    · rw [if_pos q2] at h
      exact h_mask [true, false, false, false] (b_X8_stop_40 X Q  h E)
    · rw [if_neg q2] at h
      refine h_iload_n dX8_stop_31 rfl ?_
      refine h_if_lt (tgt := 40) dX8_stop_32 (by decide) (fun q3 => ?_) (fun q3 => ?_)
      · rw [if_pos q3] at h
        exact h_mask [true, false, false, false] (b_X8_stop_40 X Q  h E)
      · rw [if_neg q3] at h
        refine h_iload_n dX8_stop_35 rfl ?_
        refine h_iconst (1 : Int32) dX8_stop_36 k_iconst_1 ?_
        refine h_icmp_le (tgt := 46) dX8_stop_37 (by decide) (fun q4 => ?_) (fun q4 => ?_)
        · rw [if_pos q4] at h
          refine h_aload_n dX8_stop_46 rfl ?_
          obtain ⟨y3, hh3, h⟩ := obd_some h
          refine h_cVv [] (m_X8_set  hh3) cw_X8_404 dX8_stop_47 rfl ok_8 (by decide) rfl (Or.inr rfl) rfl ?_
          refine h_aload_n dX8_stop_50 rfl ?_
          obtain ⟨y4, hh4, h⟩ := obd_some h
          refine h_cVv [] (m_X8_tellStops  hh4) cw_X8_388 dX8_stop_51 rfl ok_8 (by decide) rfl (Or.inr rfl) rfl ?_
          refine h_iload_n dX8_stop_54 rfl ?_
          refine h_if_ne (tgt := 72) dX8_stop_55 (by decide) (fun q5 => ?_) (fun q5 => ?_)
          · rw [if_neg q5] at h
            refine h_aload_n dX8_stop_72 rfl ?_
            refine g_X8_94  dX8_stop_73 ?_
            refine h_bipush (7 : Int32) dX8_stop_76 k_bipush_7 ?_
            refine h_iload_n dX8_stop_78 rfl ?_
            refine h_imul dX8_stop_79 ?_
            refine h_iload_n dX8_stop_80 rfl ?_
            refine h_iadd dX8_stop_81 ?_
            obtain ⟨g2, h⟩ := gd_some h
            refine al_69  ((((7 : Int32) * v1) + v2).toNatClampNeg) rfl dX8_stop_82 g2 ?_
            cases h
            exact h_iret dX8_stop_83 rfl E
          · rw [if_pos q5] at h
            refine h_aload_n dX8_stop_58 rfl ?_
            refine g_X8_91  dX8_stop_59 ?_
            refine h_bipush (7 : Int32) dX8_stop_62 k_bipush_7 ?_
            refine h_iload_n dX8_stop_64 rfl ?_
            refine h_imul dX8_stop_65 ?_
            refine h_iload_n dX8_stop_66 rfl ?_
            refine h_iadd dX8_stop_67 ?_
            obtain ⟨g3, h⟩ := gd_some h
            refine al_68  ((((7 : Int32) * v1) + v2).toNatClampNeg) rfl dX8_stop_68 g3 ?_
            refine h_goto (tgt := 83) dX8_stop_69 (by decide) ?_
            cases h
            exact h_iret dX8_stop_83 rfl E
        · rw [if_neg q4] at h
          exact h_mask [true, false, false, false] (b_X8_stop_40 X Q  h E)
theorem m_X8_stop {I : Mem} {P : PMem} {O : Nat → Int64} {D : Bool} {n : Nat} {v1 : Int32} {v2 : Int32} {v3 : Int32} {r : (Int32 × Mem)}  (h : f_X8_stop I v1 v2 v3 = some r) : MethR yX8_stop cX8_stop 4 (some .int) 4 [.inr (.inr (8, 0, 0)), .inl v1, .inl v2, .inl v3] I P O D n (some (.inl r.1)) r.2 P O D n := meth_R (Nat.le_refl _) (by decide) rfl (Nat.le_of_ble_eq_true rfl) rfl (fun X Q E => b_X8_stop X Q  h E)
def f_X8_where   (I : Mem) (v1 : Int32) (v2 : Int32) : Option (Int32 × Mem) :=
  bnd (upd4 I 8 0 0 2 (0 : Int32)) fun I1' =>
  (f_X8_isJudge I1' v1).bind fun y1 =>
  if y1 = 0 then ((f_X8_fail I1' (1 : Int32)).bind fun y5 =>
  some (y5.1, y5.2)) else ((f_X8_set I1').bind fun y2 =>
  (f_X8_tellStops y2).bind fun y3 =>
  (f_X8_townOn y3 v1 v2).bind fun y4 =>
  some (y4, y3))
theorem b_X8_where (X : CX) (Q : State → Prop) {I : Mem} {P : PMem} {O : Nat → Int64} {D : Bool} {n : Nat} {v1 : Int32} {v2 : Int32} {r : (Int32 × Mem)}  (h : f_X8_where I v1 v2 = some r) (E : EndR X cX8_where RX8 3 (some .int) 4 n (some (.inl r.1)) r.2 P O D Q) : Here X cX8_where RX8 3 (some .int) 4 n 0 [some (.inr (.inr (8, 0, 0))), some (.inl v1), some (.inl v2)] [] I P O D n Q := by
  unfold f_X8_where at h
  refine h_aload_n dX8_where_0 rfl ?_
  refine h_iconst (0 : Int32) dX8_where_1 k_iconst_0 ?_
  obtain ⟨I1', e1, h⟩ := bnd_some h
  refine p_X8_150  dX8_where_2 ?_
  refine h_nmI e1 ?_
  refine h_aload_n dX8_where_5 rfl ?_
  refine h_iload_n dX8_where_6 rfl ?_
  obtain ⟨y1, hh1, h⟩ := obd_some h
  refine h_cVi [.inl v1] (m_X8_isJudge  hh1) cw_X8_419 dX8_where_7 rfl ok_8 (by decide) rfl (Or.inr rfl) rfl ?_
  refine h_if_ne (tgt := 19) dX8_where_10 (by decide) (fun q1 => ?_) (fun q1 => ?_)
  · rw [if_neg q1] at h
    refine h_aload_n dX8_where_19 rfl ?_
    obtain ⟨y2, hh2, h⟩ := obd_some h
    refine h_cVv [] (m_X8_set  hh2) cw_X8_404 dX8_where_20 rfl ok_8 (by decide) rfl (Or.inr rfl) rfl ?_
    refine h_aload_n dX8_where_23 rfl ?_
    obtain ⟨y3, hh3, h⟩ := obd_some h
    refine h_cVv [] (m_X8_tellStops  hh3) cw_X8_388 dX8_where_24 rfl ok_8 (by decide) rfl (Or.inr rfl) rfl ?_
    refine h_aload_n dX8_where_27 rfl ?_
    refine h_iload_n dX8_where_28 rfl ?_
    refine h_iload_n dX8_where_29 rfl ?_
    obtain ⟨y4, hh4, h⟩ := obd_some h
    refine h_cVi [.inl v1, .inl v2] (m_X8_townOn  hh4) cw_X8_346 dX8_where_30 rfl ok_8 (by decide) rfl (Or.inr rfl) rfl ?_
    cases h
    exact h_iret dX8_where_33 rfl E
  · rw [if_pos q1] at h
    refine h_aload_n dX8_where_13 rfl ?_
    refine h_iconst (1 : Int32) dX8_where_14 k_iconst_1 ?_
    obtain ⟨y5, hh5, h⟩ := obd_some h
    refine h_cVi [.inl (1 : Int32)] (m_X8_fail  hh5) cw_X8_298 dX8_where_15 rfl ok_8 (by decide) rfl (Or.inr rfl) rfl ?_
    cases h
    exact h_iret dX8_where_18 rfl E
theorem m_X8_where {I : Mem} {P : PMem} {O : Nat → Int64} {D : Bool} {n : Nat} {v1 : Int32} {v2 : Int32} {r : (Int32 × Mem)}  (h : f_X8_where I v1 v2 = some r) : MethR yX8_where cX8_where 3 (some .int) 4 [.inr (.inr (8, 0, 0)), .inl v1, .inl v2] I P O D n (some (.inl r.1)) r.2 P O D n := meth_R (Nat.le_refl _) (by decide) rfl (Nat.le_of_ble_eq_true rfl) rfl (fun X Q E => b_X8_where X Q  h E)
def f_X8_proof_35   (I : Mem) : Option (Int32 × Mem) :=
  (f_X8_fail I (1 : Int32)).bind fun y1 =>
  some (y1.1, y1.2)
theorem b_X8_proof_35 (X : CX) (Q : State → Prop) {I : Mem} {P : PMem} {O : Nat → Int64} {D : Bool} {n : Nat} {r : (Int32 × Mem)}  (h : f_X8_proof_35 I = some r) (E : EndR X cX8_proof RX8 3 (some .int) 4 n (some (.inl r.1)) r.2 P O D Q) : Here X cX8_proof RX8 3 (some .int) 4 n 35 [some (.inr (.inr (8, 0, 0))), none, none] [] I P O D n Q := by
  unfold f_X8_proof_35 at h
  refine h_aload_n dX8_proof_35 rfl ?_
  refine h_iconst (1 : Int32) dX8_proof_36 k_iconst_1 ?_
  obtain ⟨y1, hh1, h⟩ := obd_some h
  refine h_cVi [.inl (1 : Int32)] (m_X8_fail  hh1) cw_X8_298 dX8_proof_37 rfl ok_8 (by decide) rfl (Or.inr rfl) rfl ?_
  cases h
  exact h_iret dX8_proof_40 rfl E
def f_X8_proof   (I : Mem) (v1 : Int32) (v2 : Int32) : Option (Int32 × Mem) :=
  bnd (upd4 I 8 0 0 2 (0 : Int32)) fun I1' =>
  (f_X8_isCase I1' v1).bind fun y1 =>
  if y1 = 0 then (f_X8_proof_35 I1') else ((f_X8_isTown I1' v2).bind fun y2 =>
  if y2 = 0 then (f_X8_proof_35 I1') else (gd (inb (((9 : Int32) * v1) + v2) 108) <|
  some ((I1' 57 0 0 ((((9 : Int32) * v1) + v2).toNatClampNeg)), I1')))
theorem b_X8_proof (X : CX) (Q : State → Prop) {I : Mem} {P : PMem} {O : Nat → Int64} {D : Bool} {n : Nat} {v1 : Int32} {v2 : Int32} {r : (Int32 × Mem)}  (h : f_X8_proof I v1 v2 = some r) (E : EndR X cX8_proof RX8 3 (some .int) 4 n (some (.inl r.1)) r.2 P O D Q) : Here X cX8_proof RX8 3 (some .int) 4 n 0 [some (.inr (.inr (8, 0, 0))), some (.inl v1), some (.inl v2)] [] I P O D n Q := by
  unfold f_X8_proof at h
  refine h_aload_n dX8_proof_0 rfl ?_
  refine h_iconst (0 : Int32) dX8_proof_1 k_iconst_0 ?_
  obtain ⟨I1', e1, h⟩ := bnd_some h
  refine p_X8_150  dX8_proof_2 ?_
  refine h_nmI e1 ?_
  refine h_aload_n dX8_proof_5 rfl ?_
  refine h_iload_n dX8_proof_6 rfl ?_
  obtain ⟨y1, hh1, h⟩ := obd_some h
  refine h_cVi [.inl v1] (m_X8_isCase  hh1) cw_X8_424 dX8_proof_7 rfl ok_8 (by decide) rfl (Or.inr rfl) rfl ?_
  refine h_if_eq (tgt := 35) dX8_proof_10 (by decide) (fun q1 => ?_) (fun q1 => ?_)
  · rw [if_pos q1] at h
    exact h_mask [true, false, false] (b_X8_proof_35 X Q  h E)
  · rw [if_neg q1] at h
    refine h_aload_n dX8_proof_13 rfl ?_
    refine h_iload_n dX8_proof_14 rfl ?_
    obtain ⟨y2, hh2, h⟩ := obd_some h
    refine h_cVi [.inl v2] (m_X8_isTown  hh2) cw_X8_413 dX8_proof_15 rfl ok_8 (by decide) rfl (Or.inr rfl) rfl ?_
    refine h_if_eq (tgt := 35) dX8_proof_18 (by decide) (fun q2 => ?_) (fun q2 => ?_)
    · rw [if_pos q2] at h
      exact h_mask [true, false, false] (b_X8_proof_35 X Q  h E)
    · rw [if_neg q2] at h
      refine h_aload_n dX8_proof_21 rfl ?_
      refine g_X8_55  dX8_proof_22 ?_
      refine h_bipush (9 : Int32) dX8_proof_25 k_bipush_9 ?_
      refine h_iload_n dX8_proof_27 rfl ?_
      refine h_imul dX8_proof_28 ?_
      refine h_iload_n dX8_proof_29 rfl ?_
      refine h_iadd dX8_proof_30 ?_
      obtain ⟨g1, h⟩ := gd_some h
      refine al_57  ((((9 : Int32) * v1) + v2).toNatClampNeg) rfl dX8_proof_31 g1 ?_
      refine h_goto (tgt := 40) dX8_proof_32 (by decide) ?_
      cases h
      exact h_iret dX8_proof_40 rfl E
theorem m_X8_proof {I : Mem} {P : PMem} {O : Nat → Int64} {D : Bool} {n : Nat} {v1 : Int32} {v2 : Int32} {r : (Int32 × Mem)}  (h : f_X8_proof I v1 v2 = some r) : MethR yX8_proof cX8_proof 3 (some .int) 4 [.inr (.inr (8, 0, 0)), .inl v1, .inl v2] I P O D n (some (.inl r.1)) r.2 P O D n := meth_R (Nat.le_refl _) (by decide) rfl (Nat.le_of_ble_eq_true rfl) rfl (fun X Q E => b_X8_proof X Q  h E)
def f_X8_said_33   (I : Mem) : Option (Int32 × Mem) :=
  (f_X8_fail I (1 : Int32)).bind fun y1 =>
  some (y1.1, y1.2)
theorem b_X8_said_33 (X : CX) (Q : State → Prop) {I : Mem} {P : PMem} {O : Nat → Int64} {D : Bool} {n : Nat} {r : (Int32 × Mem)}  (h : f_X8_said_33 I = some r) (E : EndR X cX8_said RX8 5 (some .int) 10 n (some (.inl r.1)) r.2 P O D Q) : Here X cX8_said RX8 5 (some .int) 10 n 33 [some (.inr (.inr (8, 0, 0))), none, none, none, none] [] I P O D n Q := by
  unfold f_X8_said_33 at h
  refine h_aload_n dX8_said_33 rfl ?_
  refine h_iconst (1 : Int32) dX8_said_34 k_iconst_1 ?_
  obtain ⟨y1, hh1, h⟩ := obd_some h
  refine h_cVi [.inl (1 : Int32)] (m_X8_fail  hh1) cw_X8_298 dX8_said_35 rfl ok_8 (by decide) rfl (Or.inr rfl) rfl ?_
  cases h
  exact h_iret dX8_said_38 rfl E
def f_X8_said   (I : Mem) (v1 : Int32) (v2 : Int32) (v3 : Int32) : Option (Int32 × Mem) :=
  bnd (upd4 I 8 0 0 2 (0 : Int32)) fun I1' =>
  (f_X8_isCase I1' v1).bind fun y1 =>
  if y1 = 0 then (f_X8_said_33 I1') else ((f_X8_isJudge I1' v2).bind fun y2 =>
  if y2 = 0 then (f_X8_said_33 I1') else ((f_X8_isIn I1' v3.toInt64 (0 : Int64) (3 : Int64)).bind fun y3 =>
  if y3 = 0 then (f_X8_said_33 I1') else ((f_X8_tellNow I1').bind fun y4 =>
  bnd (((5 : Int32) * v1) + v2) fun x1 =>
  if v3 = (3 : Int32) then (gd (inb x1 30) <|
  some ((y4.2 74 0 0 x1.toNatClampNeg), y4.2)) else (gd (inb x1 30) <|
  if (y4.2 71 0 0 x1.toNatClampNeg) = (-1 : Int32) then (some ((-1 : Int32), y4.2)) else (if v3 = 0 then (some ((y4.2 71 0 0 x1.toNatClampNeg), y4.2)) else (if v3 = (1 : Int32) then (some ((y4.2 72 0 0 x1.toNatClampNeg), y4.2)) else (some ((y4.2 73 0 0 x1.toNatClampNeg), y4.2))))))))
theorem b_X8_said (X : CX) (Q : State → Prop) {I : Mem} {P : PMem} {O : Nat → Int64} {D : Bool} {n : Nat} {v1 : Int32} {v2 : Int32} {v3 : Int32} {r : (Int32 × Mem)}  (h : f_X8_said I v1 v2 v3 = some r) (E : EndR X cX8_said RX8 5 (some .int) 10 n (some (.inl r.1)) r.2 P O D Q) : Here X cX8_said RX8 5 (some .int) 10 n 0 [some (.inr (.inr (8, 0, 0))), some (.inl v1), some (.inl v2), some (.inl v3), none] [] I P O D n Q := by
  unfold f_X8_said at h
  refine h_aload_n dX8_said_0 rfl ?_
  refine h_iconst (0 : Int32) dX8_said_1 k_iconst_0 ?_
  obtain ⟨I1', e1, h⟩ := bnd_some h
  refine p_X8_150  dX8_said_2 ?_
  refine h_nmI e1 ?_
  refine h_aload_n dX8_said_5 rfl ?_
  refine h_iload_n dX8_said_6 rfl ?_
  obtain ⟨y1, hh1, h⟩ := obd_some h
  refine h_cVi [.inl v1] (m_X8_isCase  hh1) cw_X8_424 dX8_said_7 rfl ok_8 (by decide) rfl (Or.inr rfl) rfl ?_
  refine h_if_eq (tgt := 33) dX8_said_10 (by decide) (fun q1 => ?_) (fun q1 => ?_)
  · rw [if_pos q1] at h
    exact h_mask [true, false, false, false, false] (b_X8_said_33 X Q  h E)
  · rw [if_neg q1] at h
    refine h_aload_n dX8_said_13 rfl ?_
    refine h_iload_n dX8_said_14 rfl ?_
    obtain ⟨y2, hh2, h⟩ := obd_some h
    refine h_cVi [.inl v2] (m_X8_isJudge  hh2) cw_X8_419 dX8_said_15 rfl ok_8 (by decide) rfl (Or.inr rfl) rfl ?_
    refine h_if_eq (tgt := 33) dX8_said_18 (by decide) (fun q2 => ?_) (fun q2 => ?_)
    · rw [if_pos q2] at h
      exact h_mask [true, false, false, false, false] (b_X8_said_33 X Q  h E)
    · rw [if_neg q2] at h
      refine h_iload_n dX8_said_21 rfl ?_
      refine h_i2l dX8_said_22 ?_
      refine h_lconst 0 dX8_said_23 rfl ?_
      refine h_ldc2 3 dX8_said_24 kl_X8_427 ?_
      obtain ⟨y3, hh3, h⟩ := obd_some h
      refine h_cSi [.inr (.inl v3.toInt64), .inr (.inl (0 : Int64)), .inr (.inl (3 : Int64))] (m_X8_isIn  hh3) cs_X8_153 dX8_said_27 rfl (by decide) rfl (Or.inr rfl) rfl ?_
      refine h_if_ne (tgt := 39) dX8_said_30 (by decide) (fun q3 => ?_) (fun q3 => ?_)
      · rw [if_neg q3] at h
        refine h_aload_n dX8_said_39 rfl ?_
        obtain ⟨y4, hh4, h⟩ := obd_some h
        refine h_cVi [] (m_X8_tellNow  hh4) cw_X8_410 dX8_said_40 rfl ok_8 (by decide) rfl (Or.inr rfl) rfl ?_
        refine h_pop dX8_said_43 (fun _ => rfl) ?_
        refine h_iconst (5 : Int32) dX8_said_44 k_iconst_5 ?_
        refine h_iload_n dX8_said_45 rfl ?_
        refine h_imul dX8_said_46 ?_
        refine h_iload_n dX8_said_47 rfl ?_
        refine h_iadd dX8_said_48 ?_
        obtain ⟨x1, e2, h⟩ := bnd_some h
        refine h_nmv e2 ?_
        refine h_istore dX8_said_49 (by decide) rfl ?_
        refine h_iload_n dX8_said_51 rfl ?_
        refine h_iconst (3 : Int32) dX8_said_52 k_iconst_3 ?_
        refine h_icmp_ne (tgt := 64) dX8_said_53 (by decide) (fun q4 => ?_) (fun q4 => ?_)
        · rw [if_neg q4] at h
          refine h_aload_n dX8_said_64 rfl ?_
          refine g_X8_106  dX8_said_65 ?_
          refine h_iload dX8_said_68 rfl ?_
          obtain ⟨g1, h⟩ := gd_some h
          refine al_71  x1.toNatClampNeg rfl dX8_said_70 g1 ?_
          refine h_iconst (-1 : Int32) dX8_said_71 k_iconst_m1 ?_
          refine h_icmp_ne (tgt := 79) dX8_said_72 (by decide) (fun q5 => ?_) (fun q5 => ?_)
          · rw [if_neg q5] at h
            refine h_iload_n dX8_said_79 rfl ?_
            refine h_if_ne (tgt := 93) dX8_said_80 (by decide) (fun q6 => ?_) (fun q6 => ?_)
            · rw [if_neg q6] at h
              refine h_iload_n dX8_said_93 rfl ?_
              refine h_iconst (1 : Int32) dX8_said_94 k_iconst_1 ?_
              refine h_icmp_ne (tgt := 108) dX8_said_95 (by decide) (fun q7 => ?_) (fun q7 => ?_)
              · rw [if_neg q7] at h
                refine h_aload_n dX8_said_108 rfl ?_
                refine g_X8_111  dX8_said_109 ?_
                refine h_iload dX8_said_112 rfl ?_
                refine al_73  x1.toNatClampNeg rfl dX8_said_114 g1 ?_
                cases h
                exact h_iret dX8_said_115 rfl E
              · rw [if_pos q7] at h
                refine h_aload_n dX8_said_98 rfl ?_
                refine g_X8_108  dX8_said_99 ?_
                refine h_iload dX8_said_102 rfl ?_
                refine al_72  x1.toNatClampNeg rfl dX8_said_104 g1 ?_
                refine h_goto (tgt := 115) dX8_said_105 (by decide) ?_
                cases h
                exact h_iret dX8_said_115 rfl E
            · rw [if_pos q6] at h
              refine h_aload_n dX8_said_83 rfl ?_
              refine g_X8_106  dX8_said_84 ?_
              refine h_iload dX8_said_87 rfl ?_
              refine al_71  x1.toNatClampNeg rfl dX8_said_89 g1 ?_
              refine h_goto (tgt := 115) dX8_said_90 (by decide) ?_
              cases h
              exact h_iret dX8_said_115 rfl E
          · rw [if_pos q5] at h
            refine h_iconst (-1 : Int32) dX8_said_75 k_iconst_m1 ?_
            refine h_goto (tgt := 115) dX8_said_76 (by decide) ?_
            cases h
            exact h_iret dX8_said_115 rfl E
        · rw [if_pos q4] at h
          refine h_aload_n dX8_said_56 rfl ?_
          refine g_X8_114  dX8_said_57 ?_
          refine h_iload dX8_said_60 rfl ?_
          obtain ⟨g2, h⟩ := gd_some h
          refine al_74  x1.toNatClampNeg rfl dX8_said_62 g2 ?_
          cases h
          exact h_iret dX8_said_63 rfl E
      · rw [if_pos q3] at h
        exact h_mask [true, false, false, false, false] (b_X8_said_33 X Q  h E)
theorem m_X8_said {I : Mem} {P : PMem} {O : Nat → Int64} {D : Bool} {n : Nat} {v1 : Int32} {v2 : Int32} {v3 : Int32} {r : (Int32 × Mem)}  (h : f_X8_said I v1 v2 v3 = some r) : MethR yX8_said cX8_said 5 (some .int) 10 [.inr (.inr (8, 0, 0)), .inl v1, .inl v2, .inl v3] I P O D n (some (.inl r.1)) r.2 P O D n := meth_R (Nat.le_refl _) (by decide) rfl (Nat.le_of_ble_eq_true rfl) rfl (fun X Q E => b_X8_said X Q  h E)
def f_X8_met_21   (I : Mem) : Option (Int32 × Mem) :=
  (f_X8_fail I (1 : Int32)).bind fun y1 =>
  some (y1.1, y1.2)
theorem b_X8_met_21 (X : CX) (Q : State → Prop) {I : Mem} {P : PMem} {O : Nat → Int64} {D : Bool} {n : Nat} {r : (Int32 × Mem)}  (h : f_X8_met_21 I = some r) (E : EndR X cX8_met RX8 3 (some .int) 10 n (some (.inl r.1)) r.2 P O D Q) : Here X cX8_met RX8 3 (some .int) 10 n 21 [some (.inr (.inr (8, 0, 0))), none, none] [] I P O D n Q := by
  unfold f_X8_met_21 at h
  refine h_aload_n dX8_met_21 rfl ?_
  refine h_iconst (1 : Int32) dX8_met_22 k_iconst_1 ?_
  obtain ⟨y1, hh1, h⟩ := obd_some h
  refine h_cVi [.inl (1 : Int32)] (m_X8_fail  hh1) cw_X8_298 dX8_met_23 rfl ok_8 (by decide) rfl (Or.inr rfl) rfl ?_
  cases h
  exact h_iret dX8_met_26 rfl E
def f_X8_met   (I : Mem) (v1 : Int32) (v2 : Int32) : Option (Int32 × Mem) :=
  bnd (upd4 I 8 0 0 2 (0 : Int32)) fun I1' =>
  (f_X8_isJudge I1' v1).bind fun y1 =>
  if y1 = 0 then (f_X8_met_21 I1') else ((f_X8_isJudge I1' v2).bind fun y2 =>
  if y2 = 0 then (f_X8_met_21 I1') else (if v1 = v2 then ((f_X8_fail I1' (2 : Int32)).bind fun y5 =>
  some (y5.1, y5.2)) else ((f_X8_tellNow I1').bind fun y3 =>
  gd (inb (((5 : Int32) * v1) + v2) 25) <|
  (f_X8_orNone y3.2 (y3.2 70 0 0 ((((5 : Int32) * v1) + v2).toNatClampNeg))).bind fun y4 =>
  some (y4, y3.2))))
theorem b_X8_met (X : CX) (Q : State → Prop) {I : Mem} {P : PMem} {O : Nat → Int64} {D : Bool} {n : Nat} {v1 : Int32} {v2 : Int32} {r : (Int32 × Mem)}  (h : f_X8_met I v1 v2 = some r) (E : EndR X cX8_met RX8 3 (some .int) 10 n (some (.inl r.1)) r.2 P O D Q) : Here X cX8_met RX8 3 (some .int) 10 n 0 [some (.inr (.inr (8, 0, 0))), some (.inl v1), some (.inl v2)] [] I P O D n Q := by
  unfold f_X8_met at h
  refine h_aload_n dX8_met_0 rfl ?_
  refine h_iconst (0 : Int32) dX8_met_1 k_iconst_0 ?_
  obtain ⟨I1', e1, h⟩ := bnd_some h
  refine p_X8_150  dX8_met_2 ?_
  refine h_nmI e1 ?_
  refine h_aload_n dX8_met_5 rfl ?_
  refine h_iload_n dX8_met_6 rfl ?_
  obtain ⟨y1, hh1, h⟩ := obd_some h
  refine h_cVi [.inl v1] (m_X8_isJudge  hh1) cw_X8_419 dX8_met_7 rfl ok_8 (by decide) rfl (Or.inr rfl) rfl ?_
  refine h_if_eq (tgt := 21) dX8_met_10 (by decide) (fun q1 => ?_) (fun q1 => ?_)
  · rw [if_pos q1] at h
    exact h_mask [true, false, false] (b_X8_met_21 X Q  h E)
  · rw [if_neg q1] at h
    refine h_aload_n dX8_met_13 rfl ?_
    refine h_iload_n dX8_met_14 rfl ?_
    obtain ⟨y2, hh2, h⟩ := obd_some h
    refine h_cVi [.inl v2] (m_X8_isJudge  hh2) cw_X8_419 dX8_met_15 rfl ok_8 (by decide) rfl (Or.inr rfl) rfl ?_
    refine h_if_ne (tgt := 27) dX8_met_18 (by decide) (fun q2 => ?_) (fun q2 => ?_)
    · rw [if_neg q2] at h
      refine h_iload_n dX8_met_27 rfl ?_
      refine h_iload_n dX8_met_28 rfl ?_
      refine h_icmp_ne (tgt := 38) dX8_met_29 (by decide) (fun q3 => ?_) (fun q3 => ?_)
      · rw [if_neg q3] at h
        refine h_aload_n dX8_met_38 rfl ?_
        obtain ⟨y3, hh3, h⟩ := obd_some h
        refine h_cVi [] (m_X8_tellNow  hh3) cw_X8_410 dX8_met_39 rfl ok_8 (by decide) rfl (Or.inr rfl) rfl ?_
        refine h_pop dX8_met_42 (fun _ => rfl) ?_
        refine h_aload_n dX8_met_43 rfl ?_
        refine g_X8_97  dX8_met_44 ?_
        refine h_iconst (5 : Int32) dX8_met_47 k_iconst_5 ?_
        refine h_iload_n dX8_met_48 rfl ?_
        refine h_imul dX8_met_49 ?_
        refine h_iload_n dX8_met_50 rfl ?_
        refine h_iadd dX8_met_51 ?_
        obtain ⟨g1, h⟩ := gd_some h
        refine al_70  ((((5 : Int32) * v1) + v2).toNatClampNeg) rfl dX8_met_52 g1 ?_
        obtain ⟨y4, hh4, h⟩ := obd_some h
        refine h_cSi [.inl (y3.2 70 0 0 ((((5 : Int32) * v1) + v2).toNatClampNeg))] (m_X8_orNone  hh4) cs_X8_416 dX8_met_53 rfl (by decide) rfl (Or.inr rfl) rfl ?_
        cases h
        exact h_iret dX8_met_56 rfl E
      · rw [if_pos q3] at h
        refine h_aload_n dX8_met_32 rfl ?_
        refine h_iconst (2 : Int32) dX8_met_33 k_iconst_2 ?_
        obtain ⟨y5, hh5, h⟩ := obd_some h
        refine h_cVi [.inl (2 : Int32)] (m_X8_fail  hh5) cw_X8_298 dX8_met_34 rfl ok_8 (by decide) rfl (Or.inr rfl) rfl ?_
        cases h
        exact h_iret dX8_met_37 rfl E
    · rw [if_pos q2] at h
      exact h_mask [true, false, false] (b_X8_met_21 X Q  h E)
theorem m_X8_met {I : Mem} {P : PMem} {O : Nat → Int64} {D : Bool} {n : Nat} {v1 : Int32} {v2 : Int32} {r : (Int32 × Mem)}  (h : f_X8_met I v1 v2 = some r) : MethR yX8_met cX8_met 3 (some .int) 10 [.inr (.inr (8, 0, 0)), .inl v1, .inl v2] I P O D n (some (.inl r.1)) r.2 P O D n := meth_R (Nat.le_refl _) (by decide) rfl (Nat.le_of_ble_eq_true rfl) rfl (fun X Q E => b_X8_met X Q  h E)
def f_X8_guilty_22   (I : Mem) : Option (Int32 × Mem) :=
  (f_X8_fail I (1 : Int32)).bind fun y1 =>
  some (y1.1, y1.2)
theorem b_X8_guilty_22 (X : CX) (Q : State → Prop) {I : Mem} {P : PMem} {O : Nat → Int64} {D : Bool} {n : Nat} {r : (Int32 × Mem)}  (h : f_X8_guilty_22 I = some r) (E : EndR X cX8_guilty RX8 3 (some .int) 10 n (some (.inl r.1)) r.2 P O D Q) : Here X cX8_guilty RX8 3 (some .int) 10 n 22 [some (.inr (.inr (8, 0, 0))), none, none] [] I P O D n Q := by
  unfold f_X8_guilty_22 at h
  refine h_aload_n dX8_guilty_22 rfl ?_
  refine h_iconst (1 : Int32) dX8_guilty_23 k_iconst_1 ?_
  obtain ⟨y1, hh1, h⟩ := obd_some h
  refine h_cVi [.inl (1 : Int32)] (m_X8_fail  hh1) cw_X8_298 dX8_guilty_24 rfl ok_8 (by decide) rfl (Or.inr rfl) rfl ?_
  cases h
  exact h_iret dX8_guilty_27 rfl E
def f_X8_guilty   (I : Mem) (v1 : Int32) (v2 : Int32) : Option (Int32 × Mem) :=
  bnd (upd4 I 8 0 0 2 (0 : Int32)) fun I1' =>
  (f_X8_isCase I1' v1).bind fun y1 =>
  if y1 = 0 then (f_X8_guilty_22 I1') else (if v2 < 0 then (f_X8_guilty_22 I1') else (if v2 ≤ (1 : Int32) then ((f_X8_tellNow I1').bind fun y2 =>
  if v2 = 0 then (gd (inb v1 6) <|
  (f_X8_orNone y2.2 (y2.2 75 0 0 v1.toNatClampNeg)).bind fun y3 =>
  some (y3, y2.2)) else (gd (inb v1 6) <|
  some ((y2.2 76 0 0 v1.toNatClampNeg), y2.2))) else (f_X8_guilty_22 I1')))
theorem b_X8_guilty (X : CX) (Q : State → Prop) {I : Mem} {P : PMem} {O : Nat → Int64} {D : Bool} {n : Nat} {v1 : Int32} {v2 : Int32} {r : (Int32 × Mem)}  (h : f_X8_guilty I v1 v2 = some r) (E : EndR X cX8_guilty RX8 3 (some .int) 10 n (some (.inl r.1)) r.2 P O D Q) : Here X cX8_guilty RX8 3 (some .int) 10 n 0 [some (.inr (.inr (8, 0, 0))), some (.inl v1), some (.inl v2)] [] I P O D n Q := by
  unfold f_X8_guilty at h
  refine h_aload_n dX8_guilty_0 rfl ?_
  refine h_iconst (0 : Int32) dX8_guilty_1 k_iconst_0 ?_
  obtain ⟨I1', e1, h⟩ := bnd_some h
  refine p_X8_150  dX8_guilty_2 ?_
  refine h_nmI e1 ?_
  refine h_aload_n dX8_guilty_5 rfl ?_
  refine h_iload_n dX8_guilty_6 rfl ?_
  obtain ⟨y1, hh1, h⟩ := obd_some h
  refine h_cVi [.inl v1] (m_X8_isCase  hh1) cw_X8_424 dX8_guilty_7 rfl ok_8 (by decide) rfl (Or.inr rfl) rfl ?_
  refine h_if_eq (tgt := 22) dX8_guilty_10 (by decide) (fun q1 => ?_) (fun q1 => ?_)
  · rw [if_pos q1] at h
    exact h_mask [true, false, false] (b_X8_guilty_22 X Q  h E)
  · rw [if_neg q1] at h
    refine h_iload_n dX8_guilty_13 rfl ?_
    refine h_if_lt (tgt := 22) dX8_guilty_14 (by decide) (fun q2 => ?_) (fun q2 => ?_)
    · rw [if_pos q2] at h
      exact h_mask [true, false, false] (b_X8_guilty_22 X Q  h E)
    · rw [if_neg q2] at h
      refine h_iload_n dX8_guilty_17 rfl ?_
      refine h_iconst (1 : Int32) dX8_guilty_18 k_iconst_1 ?_
      refine h_icmp_le (tgt := 28) dX8_guilty_19 (by decide) (fun q3 => ?_) (fun q3 => ?_)
      · rw [if_pos q3] at h
        refine h_aload_n dX8_guilty_28 rfl ?_
        obtain ⟨y2, hh2, h⟩ := obd_some h
        refine h_cVi [] (m_X8_tellNow  hh2) cw_X8_410 dX8_guilty_29 rfl ok_8 (by decide) rfl (Or.inr rfl) rfl ?_
        refine h_pop dX8_guilty_32 (fun _ => rfl) ?_
        refine h_iload_n dX8_guilty_33 rfl ?_
        refine h_if_ne (tgt := 49) dX8_guilty_34 (by decide) (fun q4 => ?_) (fun q4 => ?_)
        · rw [if_neg q4] at h
          refine h_aload_n dX8_guilty_49 rfl ?_
          refine g_X8_120  dX8_guilty_50 ?_
          refine h_iload_n dX8_guilty_53 rfl ?_
          obtain ⟨g1, h⟩ := gd_some h
          refine al_76  v1.toNatClampNeg rfl dX8_guilty_54 g1 ?_
          cases h
          exact h_iret dX8_guilty_55 rfl E
        · rw [if_pos q4] at h
          refine h_aload_n dX8_guilty_37 rfl ?_
          refine g_X8_117  dX8_guilty_38 ?_
          refine h_iload_n dX8_guilty_41 rfl ?_
          obtain ⟨g2, h⟩ := gd_some h
          refine al_75  v1.toNatClampNeg rfl dX8_guilty_42 g2 ?_
          obtain ⟨y3, hh3, h⟩ := obd_some h
          refine h_cSi [.inl (y2.2 75 0 0 v1.toNatClampNeg)] (m_X8_orNone  hh3) cs_X8_416 dX8_guilty_43 rfl (by decide) rfl (Or.inr rfl) rfl ?_
          refine h_goto (tgt := 55) dX8_guilty_46 (by decide) ?_
          cases h
          exact h_iret dX8_guilty_55 rfl E
      · rw [if_neg q3] at h
        exact h_mask [true, false, false] (b_X8_guilty_22 X Q  h E)
theorem m_X8_guilty {I : Mem} {P : PMem} {O : Nat → Int64} {D : Bool} {n : Nat} {v1 : Int32} {v2 : Int32} {r : (Int32 × Mem)}  (h : f_X8_guilty I v1 v2 = some r) : MethR yX8_guilty cX8_guilty 3 (some .int) 10 [.inr (.inr (8, 0, 0)), .inl v1, .inl v2] I P O D n (some (.inl r.1)) r.2 P O D n := meth_R (Nat.le_refl _) (by decide) rfl (Nat.le_of_ble_eq_true rfl) rfl (fun X Q E => b_X8_guilty X Q  h E)
def f_X8_news_42   : Nat → Mem → Int32 → Int32 → Int32 → Int32 → Option (Int32 × Mem)
  | 0, _, _, _, _, _ => none
  | fu + 1, I, v1, v2, v3, v4 =>
    if (I 50 0 0 4) ≤ v4 then ((f_X8_orNone I v3).bind fun y1 =>
    some (y1, I)) else ((f_X8_newsBy I v1 v4 v2).bind fun y2 =>
    bnd (jmin v3 y2) fun x1 =>
    (f_X8_news_42 fu) I v1 v2 x1 (v4 + (1 : Int32)))
theorem b_X8_news_42 (X : CX) (Q : State → Prop) {P : PMem} {O : Nat → Int64} {D : Bool} {n : Nat} {r : (Int32 × Mem)}  : ∀ (fu : Nat) {I : Mem} {v1 : Int32} {v2 : Int32} {v3 : Int32} {v4 : Int32}, f_X8_news_42 fu I v1 v2 v3 v4 = some r → EndR X cX8_news RX8 5 (some .int) 10 n (some (.inl r.1)) r.2 P O D Q → Here X cX8_news RX8 5 (some .int) 10 n 42 [some (.inr (.inr (8, 0, 0))), some (.inl v1), some (.inl v2), some (.inl v3), some (.inl v4)] [] I P O D n Q := by
  intro fu
  induction fu with
  | zero => intro I v1 v2 v3 v4 h E; cases h
  | succ fu ih =>
  intro I v1 v2 v3 v4 h E
  have H42 : ∀ (I : Mem) (v1 : Int32) (v2 : Int32) (v3 : Int32) (v4 : Int32), f_X8_news_42 fu I v1 v2 v3 v4 = some r → Here X cX8_news RX8 5 (some .int) 10 n 42 [some (.inr (.inr (8, 0, 0))), some (.inl v1), some (.inl v2), some (.inl v3), some (.inl v4)] [] I P O D n Q := fun _ _ _ _ _ b => ih b E
  simp only [f_X8_news_42] at h
  refine h_iload dX8_news_42 rfl ?_
  refine h_aload_n dX8_news_44 rfl ?_
  refine g_X8_34  dX8_news_45 ?_
  refine h_iconst (4 : Int32) dX8_news_48 k_iconst_4 ?_
  refine al_50  4 cl_4 dX8_news_49 rfl ?_
  refine h_icmp_ge (tgt := 72) dX8_news_50 (by decide) (fun q1 => ?_) (fun q1 => ?_)
  · rw [if_pos q1] at h
    refine h_iload_n dX8_news_72 rfl ?_
    obtain ⟨y1, hh1, h⟩ := obd_some h
    refine h_cSi [.inl v3] (m_X8_orNone  hh1) cs_X8_416 dX8_news_73 rfl (by decide) rfl (Or.inr rfl) rfl ?_
    cases h
    exact h_iret dX8_news_76 rfl E
  · rw [if_neg q1] at h
    refine h_iload_n dX8_news_53 rfl ?_
    refine h_aload_n dX8_news_54 rfl ?_
    refine h_iload_n dX8_news_55 rfl ?_
    refine h_iload dX8_news_56 rfl ?_
    refine h_iload_n dX8_news_58 rfl ?_
    obtain ⟨y2, hh2, h⟩ := obd_some h
    refine h_cVi [.inl v1, .inl v4, .inl v2] (m_X8_newsBy  hh2) cw_X8_372 dX8_news_59 rfl ok_8 (by decide) rfl (Or.inr rfl) rfl ?_
    refine h_min dX8_news_62 ml_X8_187 wm1_min wm2 wm3_min (by decide) rfl ?_
    obtain ⟨x1, e1, h⟩ := bnd_some h
    refine h_nmv e1 ?_
    refine h_istore_n dX8_news_65 (by decide) rfl ?_
    refine h_iinc (1 : Int32) dX8_news_66 rfl k_iinc_1 (by decide) rfl ?_
    refine h_goto (tgt := 42) dX8_news_69 (by decide) ?_
    exact (H42 _ _ _ _ _ h)
def f_X8_news_21   (I : Mem) : Option (Int32 × Mem) :=
  (f_X8_fail I (1 : Int32)).bind fun y1 =>
  some (y1.1, y1.2)
theorem b_X8_news_21 (X : CX) (Q : State → Prop) {I : Mem} {P : PMem} {O : Nat → Int64} {D : Bool} {n : Nat} {r : (Int32 × Mem)}  (h : f_X8_news_21 I = some r) (E : EndR X cX8_news RX8 5 (some .int) 10 n (some (.inl r.1)) r.2 P O D Q) : Here X cX8_news RX8 5 (some .int) 10 n 21 [some (.inr (.inr (8, 0, 0))), none, none, none, none] [] I P O D n Q := by
  unfold f_X8_news_21 at h
  refine h_aload_n dX8_news_21 rfl ?_
  refine h_iconst (1 : Int32) dX8_news_22 k_iconst_1 ?_
  obtain ⟨y1, hh1, h⟩ := obd_some h
  refine h_cVi [.inl (1 : Int32)] (m_X8_fail  hh1) cw_X8_298 dX8_news_23 rfl ok_8 (by decide) rfl (Or.inr rfl) rfl ?_
  cases h
  exact h_iret dX8_news_26 rfl E
def f_X8_news   (I : Mem) (v1 : Int32) (v2 : Int32) : Option (Int32 × Mem) :=
  bnd (upd4 I 8 0 0 2 (0 : Int32)) fun I1' =>
  (f_X8_isCase I1' v1).bind fun y1 =>
  if y1 = 0 then (f_X8_news_21 I1') else ((f_X8_isTown I1' v2).bind fun y2 =>
  if y2 = 0 then (f_X8_news_21 I1') else ((f_X8_tellNow I1').bind fun y3 =>
  (f_X8_newsByWord y3.2 v1 v2).bind fun y4 =>
  f_X8_news_42 FU y3.2 v1 v2 y4 (0 : Int32)))
theorem b_X8_news (X : CX) (Q : State → Prop) {I : Mem} {P : PMem} {O : Nat → Int64} {D : Bool} {n : Nat} {v1 : Int32} {v2 : Int32} {r : (Int32 × Mem)}  (h : f_X8_news I v1 v2 = some r) (E : EndR X cX8_news RX8 5 (some .int) 10 n (some (.inl r.1)) r.2 P O D Q) : Here X cX8_news RX8 5 (some .int) 10 n 0 [some (.inr (.inr (8, 0, 0))), some (.inl v1), some (.inl v2), none, none] [] I P O D n Q := by
  unfold f_X8_news at h
  refine h_aload_n dX8_news_0 rfl ?_
  refine h_iconst (0 : Int32) dX8_news_1 k_iconst_0 ?_
  obtain ⟨I1', e1, h⟩ := bnd_some h
  refine p_X8_150  dX8_news_2 ?_
  refine h_nmI e1 ?_
  refine h_aload_n dX8_news_5 rfl ?_
  refine h_iload_n dX8_news_6 rfl ?_
  obtain ⟨y1, hh1, h⟩ := obd_some h
  refine h_cVi [.inl v1] (m_X8_isCase  hh1) cw_X8_424 dX8_news_7 rfl ok_8 (by decide) rfl (Or.inr rfl) rfl ?_
  refine h_if_eq (tgt := 21) dX8_news_10 (by decide) (fun q1 => ?_) (fun q1 => ?_)
  · rw [if_pos q1] at h
    exact h_mask [true, false, false, false, false] (b_X8_news_21 X Q  h E)
  · rw [if_neg q1] at h
    refine h_aload_n dX8_news_13 rfl ?_
    refine h_iload_n dX8_news_14 rfl ?_
    obtain ⟨y2, hh2, h⟩ := obd_some h
    refine h_cVi [.inl v2] (m_X8_isTown  hh2) cw_X8_413 dX8_news_15 rfl ok_8 (by decide) rfl (Or.inr rfl) rfl ?_
    refine h_if_ne (tgt := 27) dX8_news_18 (by decide) (fun q2 => ?_) (fun q2 => ?_)
    · rw [if_neg q2] at h
      refine h_aload_n dX8_news_27 rfl ?_
      obtain ⟨y3, hh3, h⟩ := obd_some h
      refine h_cVi [] (m_X8_tellNow  hh3) cw_X8_410 dX8_news_28 rfl ok_8 (by decide) rfl (Or.inr rfl) rfl ?_
      refine h_pop dX8_news_31 (fun _ => rfl) ?_
      refine h_aload_n dX8_news_32 rfl ?_
      refine h_iload_n dX8_news_33 rfl ?_
      refine h_iload_n dX8_news_34 rfl ?_
      obtain ⟨y4, hh4, h⟩ := obd_some h
      refine h_cVi [.inl v1, .inl v2] (m_X8_newsByWord  hh4) cw_X8_369 dX8_news_35 rfl ok_8 (by decide) rfl (Or.inr rfl) rfl ?_
      refine h_istore_n dX8_news_38 (by decide) rfl ?_
      refine h_iconst (0 : Int32) dX8_news_39 k_iconst_0 ?_
      refine h_istore dX8_news_40 (by decide) rfl ?_
      exact (b_X8_news_42 X Q FU  h E)
    · rw [if_pos q2] at h
      exact h_mask [true, false, false, false, false] (b_X8_news_21 X Q  h E)
theorem m_X8_news {I : Mem} {P : PMem} {O : Nat → Int64} {D : Bool} {n : Nat} {v1 : Int32} {v2 : Int32} {r : (Int32 × Mem)}  (h : f_X8_news I v1 v2 = some r) : MethR yX8_news cX8_news 5 (some .int) 10 [.inr (.inr (8, 0, 0)), .inl v1, .inl v2] I P O D n (some (.inl r.1)) r.2 P O D n := meth_R (Nat.le_refl _) (by decide) rfl (Nat.le_of_ble_eq_true rfl) rfl (fun X Q E => b_X8_news X Q  h E)
def f_X8_refuse   (I : Mem) (v1 : Int32) : Option (Int32 × Mem) :=
  gd (inb v1 3) <|
  bnd (upd4 I 59 0 0 v1.toNatClampNeg ((I 59 0 0 v1.toNatClampNeg) + (1 : Int32))) fun I1' =>
  some ((-1 : Int32), I1')
theorem b_X8_refuse (X : CX) (Q : State → Prop) {I : Mem} {P : PMem} {O : Nat → Int64} {D : Bool} {n : Nat} {v1 : Int32} {r : (Int32 × Mem)}  (h : f_X8_refuse I v1 = some r) (E : EndR X cX8_refuse RX8 2 (some .int) 2 n (some (.inl r.1)) r.2 P O D Q) : Here X cX8_refuse RX8 2 (some .int) 2 n 0 [some (.inr (.inr (8, 0, 0))), some (.inl v1)] [] I P O D n Q := by
  unfold f_X8_refuse at h
  refine h_aload_n dX8_refuse_0 rfl ?_
  refine g_X8_60  dX8_refuse_1 ?_
  refine h_iload_n dX8_refuse_4 rfl ?_
  refine h_dup2 dX8_refuse_5 (fun _ => rfl) (fun _ => rfl) ?_
  obtain ⟨g1, h⟩ := gd_some h
  refine al_59  v1.toNatClampNeg rfl dX8_refuse_6 g1 ?_
  refine h_iconst (1 : Int32) dX8_refuse_7 k_iconst_1 ?_
  refine h_iadd dX8_refuse_8 ?_
  obtain ⟨I1', e1, h⟩ := bnd_some h
  refine as_59  v1.toNatClampNeg rfl dX8_refuse_9 g1 ?_
  refine h_nmI e1 ?_
  refine h_iconst (-1 : Int32) dX8_refuse_10 k_iconst_m1 ?_
  cases h
  exact h_iret dX8_refuse_11 rfl E
theorem m_X8_refuse {I : Mem} {P : PMem} {O : Nat → Int64} {D : Bool} {n : Nat} {v1 : Int32} {r : (Int32 × Mem)}  (h : f_X8_refuse I v1 = some r) : MethR yX8_refuse cX8_refuse 2 (some .int) 2 [.inr (.inr (8, 0, 0)), .inl v1] I P O D n (some (.inl r.1)) r.2 P O D n := meth_R (Nat.le_refl _) (by decide) rfl (Nat.le_of_ble_eq_true rfl) rfl (fun X Q E => b_X8_refuse X Q  h E)
def f_X8_keep_52   (I : Mem) : Option (Mem) :=
  (f_X8_pack 65 0 0 I ((45 : Int32) * (I 8 0 0 33))).bind fun y1 =>
  bnd (upd4 y1 8 0 0 33 ((y1 8 0 0 33) + (1 : Int32))) fun I1' =>
  some I1'
theorem b_X8_keep_52 (X : CX) (Q : State → Prop) {I : Mem} {P : PMem} {O : Nat → Int64} {D : Bool} {n : Nat} {r : (Mem)}  (h : f_X8_keep_52 I = some r) (E : EndR X cX8_keep RX8 2 (none) 3 n none r P O D Q) : Here X cX8_keep RX8 2 (none) 3 n 52 [some (.inr (.inr (8, 0, 0))), none] [] I P O D n Q := by
  unfold f_X8_keep_52 at h
  refine h_aload_n dX8_keep_52 rfl ?_
  refine h_aload_n dX8_keep_53 rfl ?_
  refine g_X8_82  dX8_keep_54 ?_
  refine h_bipush (45 : Int32) dX8_keep_57 k_bipush_45 ?_
  refine h_aload_n dX8_keep_59 rfl ?_
  refine g_X8_323  dX8_keep_60 ?_
  refine h_imul dX8_keep_63 ?_
  obtain ⟨y1, hh1, h⟩ := obd_some h
  refine h_cVv [.inr (.inr (65, 0, 0)), .inl ((45 : Int32) * (I 8 0 0 33))] (m_X8_pack rfl hh1) cw_X8_429 dX8_keep_64 rfl ok_8 (by decide) rfl (Or.inr rfl) rfl ?_
  refine h_aload_n dX8_keep_67 rfl ?_
  refine h_dup dX8_keep_68 (fun _ => rfl) ?_
  refine g_X8_323  dX8_keep_69 ?_
  refine h_iconst (1 : Int32) dX8_keep_72 k_iconst_1 ?_
  refine h_iadd dX8_keep_73 ?_
  obtain ⟨I1', e1, h⟩ := bnd_some h
  refine p_X8_323  dX8_keep_74 ?_
  refine h_nmI e1 ?_
  cases h
  exact h_vret dX8_keep_77 rfl E
def f_X8_keep_12   : Nat → Mem → Int32 → Option (Mem)
  | 0, _, _ => none
  | fu + 1, I, v1 =>
    if (1800 : Int32) ≤ v1 then (bnd (upd4 I 8 0 0 33 ((I 8 0 0 33) - (1 : Int32))) fun I1' =>
    f_X8_keep_52 I1') else (gd (inb v1 1800) <|
    gd (inb (v1 - (45 : Int32)) 1800) <|
    bnd (upd4 I 65 0 0 ((v1 - (45 : Int32)).toNatClampNeg) (I 65 0 0 v1.toNatClampNeg)) fun I2' =>
    (f_X8_keep_12 fu) I2' (v1 + (1 : Int32)))
theorem b_X8_keep_12 (X : CX) (Q : State → Prop) {P : PMem} {O : Nat → Int64} {D : Bool} {n : Nat} {r : (Mem)}  : ∀ (fu : Nat) {I : Mem} {v1 : Int32}, f_X8_keep_12 fu I v1 = some r → EndR X cX8_keep RX8 2 (none) 3 n none r P O D Q → Here X cX8_keep RX8 2 (none) 3 n 12 [some (.inr (.inr (8, 0, 0))), some (.inl v1)] [] I P O D n Q := by
  intro fu
  induction fu with
  | zero => intro I v1 h E; cases h
  | succ fu ih =>
  intro I v1 h E
  have H12 : ∀ (I : Mem) (v1 : Int32), f_X8_keep_12 fu I v1 = some r → Here X cX8_keep RX8 2 (none) 3 n 12 [some (.inr (.inr (8, 0, 0))), some (.inl v1)] [] I P O D n Q := fun _ _ b => ih b E
  simp only [f_X8_keep_12] at h
  refine h_iload_n dX8_keep_12 rfl ?_
  refine h_aload_n dX8_keep_13 rfl ?_
  refine g_X8_82  dX8_keep_14 ?_
  refine h_aleni (1800 : Int32) rfl dX8_keep_17 ok_65 rfl ?_
  refine h_icmp_ge (tgt := 42) dX8_keep_18 (by decide) (fun q1 => ?_) (fun q1 => ?_)
  · rw [if_pos q1] at h
    refine h_aload_n dX8_keep_42 rfl ?_
    refine h_dup dX8_keep_43 (fun _ => rfl) ?_
    refine g_X8_323  dX8_keep_44 ?_
    refine h_iconst (1 : Int32) dX8_keep_47 k_iconst_1 ?_
    refine h_isub dX8_keep_48 ?_
    obtain ⟨I1', e1, h⟩ := bnd_some h
    refine p_X8_323  dX8_keep_49 ?_
    refine h_nmI e1 ?_
    exact h_mask [true, false] (b_X8_keep_52 X Q  h E)
  · rw [if_neg q1] at h
    refine h_aload_n dX8_keep_21 rfl ?_
    refine g_X8_82  dX8_keep_22 ?_
    refine h_iload_n dX8_keep_25 rfl ?_
    refine h_bipush (45 : Int32) dX8_keep_26 k_bipush_45 ?_
    refine h_isub dX8_keep_28 ?_
    refine h_aload_n dX8_keep_29 rfl ?_
    refine g_X8_82  dX8_keep_30 ?_
    refine h_iload_n dX8_keep_33 rfl ?_
    obtain ⟨g1, h⟩ := gd_some h
    refine al_65  v1.toNatClampNeg rfl dX8_keep_34 g1 ?_
    obtain ⟨g2, h⟩ := gd_some h
    obtain ⟨I2', e2, h⟩ := bnd_some h
    refine as_65  ((v1 - (45 : Int32)).toNatClampNeg) rfl dX8_keep_35 g2 ?_
    refine h_nmI e2 ?_
    refine h_iinc (1 : Int32) dX8_keep_36 rfl k_iinc_1 (by decide) rfl ?_
    refine h_goto (tgt := 12) dX8_keep_39 (by decide) ?_
    exact (H12 _ _ h)
def f_X8_keep   (I : Mem) : Option (Mem) :=
  if (I 8 0 0 33) = (40 : Int32) then (f_X8_keep_12 FU I (45 : Int32)) else (f_X8_keep_52 I)
theorem b_X8_keep (X : CX) (Q : State → Prop) {I : Mem} {P : PMem} {O : Nat → Int64} {D : Bool} {n : Nat} {r : (Mem)}  (h : f_X8_keep I = some r) (E : EndR X cX8_keep RX8 2 (none) 3 n none r P O D Q) : Here X cX8_keep RX8 2 (none) 3 n 0 [some (.inr (.inr (8, 0, 0))), none] [] I P O D n Q := by
  unfold f_X8_keep at h
  refine h_aload_n dX8_keep_0 rfl ?_
  refine g_X8_323  dX8_keep_1 ?_
  refine h_bipush (40 : Int32) dX8_keep_4 k_bipush_40 ?_
  refine h_icmp_ne (tgt := 52) dX8_keep_6 (by decide) (fun q1 => ?_) (fun q1 => ?_)
  · rw [if_neg q1] at h
    exact (b_X8_keep_52 X Q  h E)
  · rw [if_pos q1] at h
    refine h_bipush (45 : Int32) dX8_keep_9 k_bipush_45 ?_
    refine h_istore_n dX8_keep_11 (by decide) rfl ?_
    exact (b_X8_keep_12 X Q FU  h E)
theorem m_X8_keep {I : Mem} {P : PMem} {O : Nat → Int64} {D : Bool} {n : Nat}  {r : (Mem)}  (h : f_X8_keep I = some r) : MethR yX8_keep cX8_keep 2 (none) 3 [.inr (.inr (8, 0, 0))] I P O D n none r P O D n := meth_R (Nat.le_refl _) (by decide) rfl (Nat.le_of_ble_eq_true rfl) rfl (fun X Q E => b_X8_keep X Q  h E)
