theorem dX8_feed_0 : decode cX8_feed 0 = .ok (.aload_n 0, 1) := by decide +kernel
theorem dX8_feed_1 : decode cX8_feed 1 = .ok (.iconst 0, 1) := by decide +kernel
theorem dX8_feed_2 : decode cX8_feed 2 = .ok (.putfield 150, 3) := by decide +kernel
theorem dX8_feed_5 : decode cX8_feed 5 = .ok (.aload_n 0, 1) := by decide +kernel
theorem dX8_feed_6 : decode cX8_feed 6 = .ok (.getfield 157, 3) := by decide +kernel
theorem dX8_feed_9 : decode cX8_feed 9 = .ok (.bipush 20, 2) := by decide +kernel
theorem dX8_feed_11 : decode cX8_feed 11 = .ok (.iadd, 1) := by decide +kernel
theorem dX8_feed_12 : decode cX8_feed 12 = .ok (.sipush 600, 3) := by decide +kernel
theorem dX8_feed_15 : decode cX8_feed 15 = .ok (.if_icmp .le 5, 3) := by decide +kernel
theorem dX8_feed_18 : decode cX8_feed 18 = .ok (.iconst (-1), 1) := by decide +kernel
theorem dX8_feed_19 : decode cX8_feed 19 = .ok (.ireturn, 1) := by decide +kernel
theorem dX8_feed_20 : decode cX8_feed 20 = .ok (.iconst 0, 1) := by decide +kernel
theorem dX8_feed_21 : decode cX8_feed 21 = .ok (.istore 6, 2) := by decide +kernel
theorem dX8_feed_23 : decode cX8_feed 23 = .ok (.iload 6, 2) := by decide +kernel
theorem dX8_feed_25 : decode cX8_feed 25 = .ok (.bipush 20, 2) := by decide +kernel
theorem dX8_feed_27 : decode cX8_feed 27 = .ok (.if_icmp .ge 93, 3) := by decide +kernel
theorem dX8_feed_30 : decode cX8_feed 30 = .ok (.iload 6, 2) := by decide +kernel
theorem dX8_feed_32 : decode cX8_feed 32 = .ok (.iconst 4, 1) := by decide +kernel
theorem dX8_feed_33 : decode cX8_feed 33 = .ok (.if_icmp .ge 7, 3) := by decide +kernel
theorem dX8_feed_36 : decode cX8_feed 36 = .ok (.iload_n 1, 1) := by decide +kernel
theorem dX8_feed_37 : decode cX8_feed 37 = .ok (.goto 39, 3) := by decide +kernel
theorem dX8_feed_40 : decode cX8_feed 40 = .ok (.iload 6, 2) := by decide +kernel
theorem dX8_feed_42 : decode cX8_feed 42 = .ok (.bipush 8, 2) := by decide +kernel
theorem dX8_feed_44 : decode cX8_feed 44 = .ok (.if_icmp .ge 7, 3) := by decide +kernel
theorem dX8_feed_47 : decode cX8_feed 47 = .ok (.iload_n 2, 1) := by decide +kernel
theorem dX8_feed_48 : decode cX8_feed 48 = .ok (.goto 28, 3) := by decide +kernel
theorem dX8_feed_51 : decode cX8_feed 51 = .ok (.iload 6, 2) := by decide +kernel
theorem dX8_feed_53 : decode cX8_feed 53 = .ok (.bipush 12, 2) := by decide +kernel
theorem dX8_feed_55 : decode cX8_feed 55 = .ok (.if_icmp .ge 7, 3) := by decide +kernel
theorem dX8_feed_58 : decode cX8_feed 58 = .ok (.iload_n 3, 1) := by decide +kernel
theorem dX8_feed_59 : decode cX8_feed 59 = .ok (.goto 17, 3) := by decide +kernel
theorem dX8_feed_62 : decode cX8_feed 62 = .ok (.iload 6, 2) := by decide +kernel
theorem dX8_feed_64 : decode cX8_feed 64 = .ok (.bipush 16, 2) := by decide +kernel
theorem dX8_feed_66 : decode cX8_feed 66 = .ok (.if_icmp .ge 8, 3) := by decide +kernel
theorem dX8_feed_69 : decode cX8_feed 69 = .ok (.iload 4, 2) := by decide +kernel
theorem dX8_feed_71 : decode cX8_feed 71 = .ok (.goto 5, 3) := by decide +kernel
theorem dX8_feed_74 : decode cX8_feed 74 = .ok (.iload 5, 2) := by decide +kernel
theorem dX8_feed_76 : decode cX8_feed 76 = .ok (.istore 7, 2) := by decide +kernel
theorem dX8_feed_78 : decode cX8_feed 78 = .ok (.aload_n 0, 1) := by decide +kernel
theorem dX8_feed_79 : decode cX8_feed 79 = .ok (.getfield 63, 3) := by decide +kernel
theorem dX8_feed_82 : decode cX8_feed 82 = .ok (.aload_n 0, 1) := by decide +kernel
theorem dX8_feed_83 : decode cX8_feed 83 = .ok (.getfield 157, 3) := by decide +kernel
theorem dX8_feed_86 : decode cX8_feed 86 = .ok (.iload 7, 2) := by decide +kernel
theorem dX8_feed_88 : decode cX8_feed 88 = .ok (.bipush 24, 2) := by decide +kernel
theorem dX8_feed_90 : decode cX8_feed 90 = .ok (.bipush 8, 2) := by decide +kernel
theorem dX8_feed_92 : decode cX8_feed 92 = .ok (.iload 6, 2) := by decide +kernel
theorem dX8_feed_94 : decode cX8_feed 94 = .ok (.iconst 4, 1) := by decide +kernel
theorem dX8_feed_95 : decode cX8_feed 95 = .ok (.irem, 1) := by decide +kernel
theorem dX8_feed_96 : decode cX8_feed 96 = .ok (.imul, 1) := by decide +kernel
theorem dX8_feed_97 : decode cX8_feed 97 = .ok (.isub, 1) := by decide +kernel
theorem dX8_feed_98 : decode cX8_feed 98 = .ok (.ishr, 1) := by decide +kernel
theorem dX8_feed_99 : decode cX8_feed 99 = .ok (.sipush 255, 3) := by decide +kernel
theorem dX8_feed_102 : decode cX8_feed 102 = .ok (.iand, 1) := by decide +kernel
theorem dX8_feed_103 : decode cX8_feed 103 = .ok (.iastore, 1) := by decide +kernel
theorem dX8_feed_104 : decode cX8_feed 104 = .ok (.aload_n 0, 1) := by decide +kernel
theorem dX8_feed_105 : decode cX8_feed 105 = .ok (.dup, 1) := by decide +kernel
theorem dX8_feed_106 : decode cX8_feed 106 = .ok (.getfield 157, 3) := by decide +kernel
theorem dX8_feed_109 : decode cX8_feed 109 = .ok (.iconst 1, 1) := by decide +kernel
theorem dX8_feed_110 : decode cX8_feed 110 = .ok (.iadd, 1) := by decide +kernel
theorem dX8_feed_111 : decode cX8_feed 111 = .ok (.putfield 157, 3) := by decide +kernel
theorem dX8_feed_114 : decode cX8_feed 114 = .ok (.iinc 6 1, 3) := by decide +kernel
theorem dX8_feed_117 : decode cX8_feed 117 = .ok (.goto (-94), 3) := by decide +kernel
theorem dX8_feed_120 : decode cX8_feed 120 = .ok (.aload_n 0, 1) := by decide +kernel
theorem dX8_feed_121 : decode cX8_feed 121 = .ok (.getfield 157, 3) := by decide +kernel
theorem dX8_feed_124 : decode cX8_feed 124 = .ok (.ireturn, 1) := by decide +kernel
theorem dX8_byteAt_0 : decode cX8_byteAt 0 = .ok (.iload_n 1, 1) := by decide +kernel
theorem dX8_byteAt_1 : decode cX8_byteAt 1 = .ok (.aload_n 0, 1) := by decide +kernel
theorem dX8_byteAt_2 : decode cX8_byteAt 2 = .ok (.getfield 160, 3) := by decide +kernel
theorem dX8_byteAt_5 : decode cX8_byteAt 5 = .ok (.if_icmp .ge 12, 3) := by decide +kernel
theorem dX8_byteAt_8 : decode cX8_byteAt 8 = .ok (.aload_n 0, 1) := by decide +kernel
theorem dX8_byteAt_9 : decode cX8_byteAt 9 = .ok (.getfield 63, 3) := by decide +kernel
theorem dX8_byteAt_12 : decode cX8_byteAt 12 = .ok (.iload_n 1, 1) := by decide +kernel
theorem dX8_byteAt_13 : decode cX8_byteAt 13 = .ok (.iaload, 1) := by decide +kernel
theorem dX8_byteAt_14 : decode cX8_byteAt 14 = .ok (.goto 4, 3) := by decide +kernel
theorem dX8_byteAt_17 : decode cX8_byteAt 17 = .ok (.iconst (-1), 1) := by decide +kernel
theorem dX8_byteAt_18 : decode cX8_byteAt 18 = .ok (.ireturn, 1) := by decide +kernel
theorem dX8_isLetter_0 : decode cX8_isLetter 0 = .ok (.iload_n 0, 1) := by decide +kernel
theorem dX8_isLetter_1 : decode cX8_isLetter 1 = .ok (.bipush 97, 2) := by decide +kernel
theorem dX8_isLetter_3 : decode cX8_isLetter 3 = .ok (.if_icmp .lt 13, 3) := by decide +kernel
theorem dX8_isLetter_6 : decode cX8_isLetter 6 = .ok (.iload_n 0, 1) := by decide +kernel
theorem dX8_isLetter_7 : decode cX8_isLetter 7 = .ok (.bipush 122, 2) := by decide +kernel
theorem dX8_isLetter_9 : decode cX8_isLetter 9 = .ok (.if_icmp .gt 7, 3) := by decide +kernel
theorem dX8_isLetter_12 : decode cX8_isLetter 12 = .ok (.iconst 1, 1) := by decide +kernel
theorem dX8_isLetter_13 : decode cX8_isLetter 13 = .ok (.goto 4, 3) := by decide +kernel
theorem dX8_isLetter_16 : decode cX8_isLetter 16 = .ok (.iconst 0, 1) := by decide +kernel
theorem dX8_isLetter_17 : decode cX8_isLetter 17 = .ok (.ireturn, 1) := by decide +kernel
theorem dX8_isDigit_0 : decode cX8_isDigit 0 = .ok (.iload_n 0, 1) := by decide +kernel
theorem dX8_isDigit_1 : decode cX8_isDigit 1 = .ok (.bipush 48, 2) := by decide +kernel
theorem dX8_isDigit_3 : decode cX8_isDigit 3 = .ok (.if_icmp .lt 13, 3) := by decide +kernel
theorem dX8_isDigit_6 : decode cX8_isDigit 6 = .ok (.iload_n 0, 1) := by decide +kernel
theorem dX8_isDigit_7 : decode cX8_isDigit 7 = .ok (.bipush 57, 2) := by decide +kernel
theorem dX8_isDigit_9 : decode cX8_isDigit 9 = .ok (.if_icmp .gt 7, 3) := by decide +kernel
theorem dX8_isDigit_12 : decode cX8_isDigit 12 = .ok (.iconst 1, 1) := by decide +kernel
theorem dX8_isDigit_13 : decode cX8_isDigit 13 = .ok (.goto 4, 3) := by decide +kernel
theorem dX8_isDigit_16 : decode cX8_isDigit 16 = .ok (.iconst 0, 1) := by decide +kernel
theorem dX8_isDigit_17 : decode cX8_isDigit 17 = .ok (.ireturn, 1) := by decide +kernel
theorem dX8_isMark_0 : decode cX8_isMark 0 = .ok (.iload_n 0, 1) := by decide +kernel
theorem dX8_isMark_1 : decode cX8_isMark 1 = .ok (.bipush 59, 2) := by decide +kernel
theorem dX8_isMark_3 : decode cX8_isMark 3 = .ok (.if_icmp .eq 51, 3) := by decide +kernel
theorem dX8_isMark_6 : decode cX8_isMark 6 = .ok (.iload_n 0, 1) := by decide +kernel
theorem dX8_isMark_7 : decode cX8_isMark 7 = .ok (.bipush 40, 2) := by decide +kernel
theorem dX8_isMark_9 : decode cX8_isMark 9 = .ok (.if_icmp .eq 45, 3) := by decide +kernel
theorem dX8_isMark_12 : decode cX8_isMark 12 = .ok (.iload_n 0, 1) := by decide +kernel
theorem dX8_isMark_13 : decode cX8_isMark 13 = .ok (.bipush 41, 2) := by decide +kernel
theorem dX8_isMark_15 : decode cX8_isMark 15 = .ok (.if_icmp .eq 39, 3) := by decide +kernel
theorem dX8_isMark_18 : decode cX8_isMark 18 = .ok (.iload_n 0, 1) := by decide +kernel
theorem dX8_isMark_19 : decode cX8_isMark 19 = .ok (.bipush 43, 2) := by decide +kernel
theorem dX8_isMark_21 : decode cX8_isMark 21 = .ok (.if_icmp .eq 33, 3) := by decide +kernel
theorem dX8_isMark_24 : decode cX8_isMark 24 = .ok (.iload_n 0, 1) := by decide +kernel
theorem dX8_isMark_25 : decode cX8_isMark 25 = .ok (.bipush 45, 2) := by decide +kernel
theorem dX8_isMark_27 : decode cX8_isMark 27 = .ok (.if_icmp .eq 27, 3) := by decide +kernel
theorem dX8_isMark_30 : decode cX8_isMark 30 = .ok (.iload_n 0, 1) := by decide +kernel
theorem dX8_isMark_31 : decode cX8_isMark 31 = .ok (.bipush 42, 2) := by decide +kernel
theorem dX8_isMark_33 : decode cX8_isMark 33 = .ok (.if_icmp .eq 21, 3) := by decide +kernel
theorem dX8_isMark_36 : decode cX8_isMark 36 = .ok (.iload_n 0, 1) := by decide +kernel
theorem dX8_isMark_37 : decode cX8_isMark 37 = .ok (.bipush 47, 2) := by decide +kernel
theorem dX8_isMark_39 : decode cX8_isMark 39 = .ok (.if_icmp .eq 15, 3) := by decide +kernel
theorem dX8_isMark_42 : decode cX8_isMark 42 = .ok (.iload_n 0, 1) := by decide +kernel
theorem dX8_isMark_43 : decode cX8_isMark 43 = .ok (.bipush 60, 2) := by decide +kernel
theorem dX8_isMark_45 : decode cX8_isMark 45 = .ok (.if_icmp .eq 9, 3) := by decide +kernel
theorem dX8_isMark_48 : decode cX8_isMark 48 = .ok (.iload_n 0, 1) := by decide +kernel
theorem dX8_isMark_49 : decode cX8_isMark 49 = .ok (.bipush 61, 2) := by decide +kernel
theorem dX8_isMark_51 : decode cX8_isMark 51 = .ok (.if_icmp .ne 7, 3) := by decide +kernel
theorem dX8_isMark_54 : decode cX8_isMark 54 = .ok (.iconst 1, 1) := by decide +kernel
theorem dX8_isMark_55 : decode cX8_isMark 55 = .ok (.goto 4, 3) := by decide +kernel
theorem dX8_isMark_58 : decode cX8_isMark 58 = .ok (.iconst 0, 1) := by decide +kernel
theorem dX8_isMark_59 : decode cX8_isMark 59 = .ok (.ireturn, 1) := by decide +kernel
theorem dX8_stepOn_0 : decode cX8_stepOn 0 = .ok (.aload_n 0, 1) := by decide +kernel
theorem dX8_stepOn_1 : decode cX8_stepOn 1 = .ok (.aload_n 0, 1) := by decide +kernel
theorem dX8_stepOn_2 : decode cX8_stepOn 2 = .ok (.getfield 163, 3) := by decide +kernel
theorem dX8_stepOn_5 : decode cX8_stepOn 5 = .ok (.invokevirtual 166, 3) := by decide +kernel
theorem dX8_stepOn_8 : decode cX8_stepOn 8 = .ok (.bipush 32, 2) := by decide +kernel
theorem dX8_stepOn_10 : decode cX8_stepOn 10 = .ok (.if_icmp .eq 16, 3) := by decide +kernel
theorem dX8_stepOn_13 : decode cX8_stepOn 13 = .ok (.aload_n 0, 1) := by decide +kernel
theorem dX8_stepOn_14 : decode cX8_stepOn 14 = .ok (.aload_n 0, 1) := by decide +kernel
theorem dX8_stepOn_15 : decode cX8_stepOn 15 = .ok (.getfield 163, 3) := by decide +kernel
theorem dX8_stepOn_18 : decode cX8_stepOn 18 = .ok (.invokevirtual 166, 3) := by decide +kernel
theorem dX8_stepOn_21 : decode cX8_stepOn 21 = .ok (.bipush 10, 2) := by decide +kernel
theorem dX8_stepOn_23 : decode cX8_stepOn 23 = .ok (.if_icmp .ne 16, 3) := by decide +kernel
theorem dX8_stepOn_26 : decode cX8_stepOn 26 = .ok (.aload_n 0, 1) := by decide +kernel
theorem dX8_stepOn_27 : decode cX8_stepOn 27 = .ok (.dup, 1) := by decide +kernel
theorem dX8_stepOn_28 : decode cX8_stepOn 28 = .ok (.getfield 163, 3) := by decide +kernel
theorem dX8_stepOn_31 : decode cX8_stepOn 31 = .ok (.iconst 1, 1) := by decide +kernel
theorem dX8_stepOn_32 : decode cX8_stepOn 32 = .ok (.iadd, 1) := by decide +kernel
theorem dX8_stepOn_33 : decode cX8_stepOn 33 = .ok (.putfield 163, 3) := by decide +kernel
theorem dX8_stepOn_36 : decode cX8_stepOn 36 = .ok (.goto (-36), 3) := by decide +kernel
theorem dX8_stepOn_39 : decode cX8_stepOn 39 = .ok (.aload_n 0, 1) := by decide +kernel
theorem dX8_stepOn_40 : decode cX8_stepOn 40 = .ok (.aload_n 0, 1) := by decide +kernel
theorem dX8_stepOn_41 : decode cX8_stepOn 41 = .ok (.getfield 163, 3) := by decide +kernel
theorem dX8_stepOn_44 : decode cX8_stepOn 44 = .ok (.putfield 170, 3) := by decide +kernel
theorem dX8_stepOn_47 : decode cX8_stepOn 47 = .ok (.aload_n 0, 1) := by decide +kernel
theorem dX8_stepOn_48 : decode cX8_stepOn 48 = .ok (.aload_n 0, 1) := by decide +kernel
theorem dX8_stepOn_49 : decode cX8_stepOn 49 = .ok (.getfield 163, 3) := by decide +kernel
theorem dX8_stepOn_52 : decode cX8_stepOn 52 = .ok (.invokevirtual 166, 3) := by decide +kernel
theorem dX8_stepOn_55 : decode cX8_stepOn 55 = .ok (.istore_n 1, 1) := by decide +kernel
theorem dX8_stepOn_56 : decode cX8_stepOn 56 = .ok (.iload_n 1, 1) := by decide +kernel
theorem dX8_stepOn_57 : decode cX8_stepOn 57 = .ok (.iconst (-1), 1) := by decide +kernel
theorem dX8_stepOn_58 : decode cX8_stepOn 58 = .ok (.if_icmp .ne 11, 3) := by decide +kernel
theorem dX8_stepOn_61 : decode cX8_stepOn 61 = .ok (.aload_n 0, 1) := by decide +kernel
theorem dX8_stepOn_62 : decode cX8_stepOn 62 = .ok (.iconst 0, 1) := by decide +kernel
theorem dX8_stepOn_63 : decode cX8_stepOn 63 = .ok (.putfield 173, 3) := by decide +kernel
theorem dX8_stepOn_66 : decode cX8_stepOn 66 = .ok (.goto 146, 3) := by decide +kernel
theorem dX8_stepOn_69 : decode cX8_stepOn 69 = .ok (.iload_n 1, 1) := by decide +kernel
theorem dX8_stepOn_70 : decode cX8_stepOn 70 = .ok (.invokestatic 176, 3) := by decide +kernel
theorem dX8_stepOn_73 : decode cX8_stepOn 73 = .ok (.ifCond .eq 38, 3) := by decide +kernel
theorem dX8_stepOn_76 : decode cX8_stepOn 76 = .ok (.aload_n 0, 1) := by decide +kernel
theorem dX8_stepOn_77 : decode cX8_stepOn 77 = .ok (.aload_n 0, 1) := by decide +kernel
theorem dX8_stepOn_78 : decode cX8_stepOn 78 = .ok (.getfield 163, 3) := by decide +kernel
theorem dX8_stepOn_81 : decode cX8_stepOn 81 = .ok (.invokevirtual 166, 3) := by decide +kernel
theorem dX8_stepOn_84 : decode cX8_stepOn 84 = .ok (.invokestatic 176, 3) := by decide +kernel
theorem dX8_stepOn_87 : decode cX8_stepOn 87 = .ok (.ifCond .eq 16, 3) := by decide +kernel
theorem dX8_stepOn_90 : decode cX8_stepOn 90 = .ok (.aload_n 0, 1) := by decide +kernel
theorem dX8_stepOn_91 : decode cX8_stepOn 91 = .ok (.dup, 1) := by decide +kernel
theorem dX8_stepOn_92 : decode cX8_stepOn 92 = .ok (.getfield 163, 3) := by decide +kernel
theorem dX8_stepOn_95 : decode cX8_stepOn 95 = .ok (.iconst 1, 1) := by decide +kernel
theorem dX8_stepOn_96 : decode cX8_stepOn 96 = .ok (.iadd, 1) := by decide +kernel
theorem dX8_stepOn_97 : decode cX8_stepOn 97 = .ok (.putfield 163, 3) := by decide +kernel
theorem dX8_stepOn_100 : decode cX8_stepOn 100 = .ok (.goto (-24), 3) := by decide +kernel
theorem dX8_stepOn_103 : decode cX8_stepOn 103 = .ok (.aload_n 0, 1) := by decide +kernel
theorem dX8_stepOn_104 : decode cX8_stepOn 104 = .ok (.iconst 1, 1) := by decide +kernel
theorem dX8_stepOn_105 : decode cX8_stepOn 105 = .ok (.putfield 173, 3) := by decide +kernel
theorem dX8_stepOn_108 : decode cX8_stepOn 108 = .ok (.goto 104, 3) := by decide +kernel
theorem dX8_stepOn_111 : decode cX8_stepOn 111 = .ok (.iload_n 1, 1) := by decide +kernel
theorem dX8_stepOn_112 : decode cX8_stepOn 112 = .ok (.invokestatic 180, 3) := by decide +kernel
theorem dX8_stepOn_115 : decode cX8_stepOn 115 = .ok (.ifCond .eq 71, 3) := by decide +kernel
theorem dX8_stepOn_118 : decode cX8_stepOn 118 = .ok (.aload_n 0, 1) := by decide +kernel
theorem dX8_stepOn_119 : decode cX8_stepOn 119 = .ok (.iconst 0, 1) := by decide +kernel
theorem dX8_stepOn_120 : decode cX8_stepOn 120 = .ok (.putfield 183, 3) := by decide +kernel
theorem dX8_stepOn_123 : decode cX8_stepOn 123 = .ok (.aload_n 0, 1) := by decide +kernel
theorem dX8_stepOn_124 : decode cX8_stepOn 124 = .ok (.aload_n 0, 1) := by decide +kernel
theorem dX8_stepOn_125 : decode cX8_stepOn 125 = .ok (.getfield 163, 3) := by decide +kernel
theorem dX8_stepOn_128 : decode cX8_stepOn 128 = .ok (.invokevirtual 166, 3) := by decide +kernel
theorem dX8_stepOn_131 : decode cX8_stepOn 131 = .ok (.invokestatic 180, 3) := by decide +kernel
theorem dX8_stepOn_134 : decode cX8_stepOn 134 = .ok (.ifCond .eq 44, 3) := by decide +kernel
theorem dX8_stepOn_137 : decode cX8_stepOn 137 = .ok (.aload_n 0, 1) := by decide +kernel
theorem dX8_stepOn_138 : decode cX8_stepOn 138 = .ok (.ldc 186, 2) := by decide +kernel
theorem dX8_stepOn_140 : decode cX8_stepOn 140 = .ok (.bipush 10, 2) := by decide +kernel
theorem dX8_stepOn_142 : decode cX8_stepOn 142 = .ok (.aload_n 0, 1) := by decide +kernel
theorem dX8_stepOn_143 : decode cX8_stepOn 143 = .ok (.getfield 183, 3) := by decide +kernel
theorem dX8_stepOn_146 : decode cX8_stepOn 146 = .ok (.imul, 1) := by decide +kernel
theorem dX8_stepOn_147 : decode cX8_stepOn 147 = .ok (.aload_n 0, 1) := by decide +kernel
theorem dX8_stepOn_148 : decode cX8_stepOn 148 = .ok (.aload_n 0, 1) := by decide +kernel
theorem dX8_stepOn_149 : decode cX8_stepOn 149 = .ok (.getfield 163, 3) := by decide +kernel
theorem dX8_stepOn_152 : decode cX8_stepOn 152 = .ok (.invokevirtual 166, 3) := by decide +kernel
theorem dX8_stepOn_155 : decode cX8_stepOn 155 = .ok (.iadd, 1) := by decide +kernel
theorem dX8_stepOn_156 : decode cX8_stepOn 156 = .ok (.bipush 48, 2) := by decide +kernel
theorem dX8_stepOn_158 : decode cX8_stepOn 158 = .ok (.isub, 1) := by decide +kernel
theorem dX8_stepOn_159 : decode cX8_stepOn 159 = .ok (.invokestatic 187, 3) := by decide +kernel
theorem dX8_stepOn_162 : decode cX8_stepOn 162 = .ok (.putfield 183, 3) := by decide +kernel
theorem dX8_stepOn_165 : decode cX8_stepOn 165 = .ok (.aload_n 0, 1) := by decide +kernel
theorem dX8_stepOn_166 : decode cX8_stepOn 166 = .ok (.dup, 1) := by decide +kernel
theorem dX8_stepOn_167 : decode cX8_stepOn 167 = .ok (.getfield 163, 3) := by decide +kernel
theorem dX8_stepOn_170 : decode cX8_stepOn 170 = .ok (.iconst 1, 1) := by decide +kernel
theorem dX8_stepOn_171 : decode cX8_stepOn 171 = .ok (.iadd, 1) := by decide +kernel
theorem dX8_stepOn_172 : decode cX8_stepOn 172 = .ok (.putfield 163, 3) := by decide +kernel
theorem dX8_stepOn_175 : decode cX8_stepOn 175 = .ok (.goto (-52), 3) := by decide +kernel
theorem dX8_stepOn_178 : decode cX8_stepOn 178 = .ok (.aload_n 0, 1) := by decide +kernel
theorem dX8_stepOn_179 : decode cX8_stepOn 179 = .ok (.iconst 2, 1) := by decide +kernel
theorem dX8_stepOn_180 : decode cX8_stepOn 180 = .ok (.putfield 173, 3) := by decide +kernel
theorem dX8_stepOn_183 : decode cX8_stepOn 183 = .ok (.goto 29, 3) := by decide +kernel
theorem dX8_stepOn_186 : decode cX8_stepOn 186 = .ok (.aload_n 0, 1) := by decide +kernel
theorem dX8_stepOn_187 : decode cX8_stepOn 187 = .ok (.dup, 1) := by decide +kernel
theorem dX8_stepOn_188 : decode cX8_stepOn 188 = .ok (.getfield 163, 3) := by decide +kernel
theorem dX8_stepOn_191 : decode cX8_stepOn 191 = .ok (.iconst 1, 1) := by decide +kernel
theorem dX8_stepOn_192 : decode cX8_stepOn 192 = .ok (.iadd, 1) := by decide +kernel
theorem dX8_stepOn_193 : decode cX8_stepOn 193 = .ok (.putfield 163, 3) := by decide +kernel
theorem dX8_stepOn_196 : decode cX8_stepOn 196 = .ok (.aload_n 0, 1) := by decide +kernel
theorem dX8_stepOn_197 : decode cX8_stepOn 197 = .ok (.iload_n 1, 1) := by decide +kernel
theorem dX8_stepOn_198 : decode cX8_stepOn 198 = .ok (.invokestatic 193, 3) := by decide +kernel
theorem dX8_stepOn_201 : decode cX8_stepOn 201 = .ok (.ifCond .eq 7, 3) := by decide +kernel
theorem dX8_stepOn_204 : decode cX8_stepOn 204 = .ok (.iconst 3, 1) := by decide +kernel
theorem dX8_stepOn_205 : decode cX8_stepOn 205 = .ok (.goto 4, 3) := by decide +kernel
theorem dX8_stepOn_208 : decode cX8_stepOn 208 = .ok (.iconst 4, 1) := by decide +kernel
theorem dX8_stepOn_209 : decode cX8_stepOn 209 = .ok (.putfield 173, 3) := by decide +kernel
theorem dX8_stepOn_212 : decode cX8_stepOn 212 = .ok (.aload_n 0, 1) := by decide +kernel
theorem dX8_stepOn_213 : decode cX8_stepOn 213 = .ok (.aload_n 0, 1) := by decide +kernel
theorem dX8_stepOn_214 : decode cX8_stepOn 214 = .ok (.getfield 163, 3) := by decide +kernel
theorem dX8_stepOn_217 : decode cX8_stepOn 217 = .ok (.putfield 196, 3) := by decide +kernel
theorem dX8_stepOn_220 : decode cX8_stepOn 220 = .ok (.return_, 1) := by decide +kernel
theorem dX8_wrong_0 : decode cX8_wrong 0 = .ok (.aload_n 0, 1) := by decide +kernel
theorem dX8_wrong_1 : decode cX8_wrong 1 = .ok (.getfield 199, 3) := by decide +kernel
theorem dX8_wrong_4 : decode cX8_wrong 4 = .ok (.ifCond .eq 4, 3) := by decide +kernel
theorem dX8_wrong_7 : decode cX8_wrong 7 = .ok (.return_, 1) := by decide +kernel
theorem dX8_wrong_8 : decode cX8_wrong 8 = .ok (.aload_n 0, 1) := by decide +kernel
theorem dX8_wrong_9 : decode cX8_wrong 9 = .ok (.iload_n 1, 1) := by decide +kernel
theorem dX8_wrong_10 : decode cX8_wrong 10 = .ok (.putfield 199, 3) := by decide +kernel
theorem dX8_wrong_13 : decode cX8_wrong 13 = .ok (.aload_n 0, 1) := by decide +kernel
theorem dX8_wrong_14 : decode cX8_wrong 14 = .ok (.aload_n 0, 1) := by decide +kernel
theorem dX8_wrong_15 : decode cX8_wrong 15 = .ok (.getfield 170, 3) := by decide +kernel
theorem dX8_wrong_18 : decode cX8_wrong 18 = .ok (.putfield 202, 3) := by decide +kernel
theorem dX8_wrong_21 : decode cX8_wrong 21 = .ok (.return_, 1) := by decide +kernel
theorem dX8_is_0 : decode cX8_is 0 = .ok (.aload_n 0, 1) := by decide +kernel
theorem dX8_is_1 : decode cX8_is 1 = .ok (.getfield 199, 3) := by decide +kernel
theorem dX8_is_4 : decode cX8_is 4 = .ok (.ifCond .ne 31, 3) := by decide +kernel
theorem dX8_is_7 : decode cX8_is 7 = .ok (.aload_n 0, 1) := by decide +kernel
theorem dX8_is_8 : decode cX8_is 8 = .ok (.getfield 173, 3) := by decide +kernel
theorem dX8_is_11 : decode cX8_is 11 = .ok (.iconst 1, 1) := by decide +kernel
theorem dX8_is_12 : decode cX8_is 12 = .ok (.if_icmp .ne 23, 3) := by decide +kernel
theorem dX8_is_15 : decode cX8_is 15 = .ok (.aload_n 1, 1) := by decide +kernel
theorem dX8_is_16 : decode cX8_is 16 = .ok (.invokevirtual 205, 3) := by decide +kernel
theorem dX8_is_19 : decode cX8_is 19 = .ok (.aload_n 0, 1) := by decide +kernel
theorem dX8_is_20 : decode cX8_is 20 = .ok (.getfield 196, 3) := by decide +kernel
theorem dX8_is_23 : decode cX8_is 23 = .ok (.aload_n 0, 1) := by decide +kernel
theorem dX8_is_24 : decode cX8_is 24 = .ok (.getfield 170, 3) := by decide +kernel
theorem dX8_is_27 : decode cX8_is 27 = .ok (.isub, 1) := by decide +kernel
theorem dX8_is_28 : decode cX8_is 28 = .ok (.if_icmp .ne 7, 3) := by decide +kernel
theorem dX8_is_31 : decode cX8_is 31 = .ok (.iconst 1, 1) := by decide +kernel
theorem dX8_is_32 : decode cX8_is 32 = .ok (.goto 4, 3) := by decide +kernel
theorem dX8_is_35 : decode cX8_is 35 = .ok (.iconst 0, 1) := by decide +kernel
theorem dX8_is_36 : decode cX8_is 36 = .ok (.istore_n 2, 1) := by decide +kernel
theorem dX8_is_37 : decode cX8_is 37 = .ok (.iconst 0, 1) := by decide +kernel
theorem dX8_is_38 : decode cX8_is 38 = .ok (.istore_n 3, 1) := by decide +kernel
theorem dX8_is_39 : decode cX8_is 39 = .ok (.iload_n 2, 1) := by decide +kernel
theorem dX8_is_40 : decode cX8_is 40 = .ok (.ifCond .eq 42, 3) := by decide +kernel
theorem dX8_is_43 : decode cX8_is 43 = .ok (.iload_n 3, 1) := by decide +kernel
theorem dX8_is_44 : decode cX8_is 44 = .ok (.aload_n 1, 1) := by decide +kernel
theorem dX8_is_45 : decode cX8_is 45 = .ok (.invokevirtual 205, 3) := by decide +kernel
theorem dX8_is_48 : decode cX8_is 48 = .ok (.if_icmp .ge 34, 3) := by decide +kernel
theorem dX8_is_51 : decode cX8_is 51 = .ok (.aload_n 1, 1) := by decide +kernel
theorem dX8_is_52 : decode cX8_is 52 = .ok (.iload_n 3, 1) := by decide +kernel
theorem dX8_is_53 : decode cX8_is 53 = .ok (.invokevirtual 209, 3) := by decide +kernel
theorem dX8_is_56 : decode cX8_is 56 = .ok (.aload_n 0, 1) := by decide +kernel
theorem dX8_is_57 : decode cX8_is 57 = .ok (.getfield 63, 3) := by decide +kernel
theorem dX8_is_60 : decode cX8_is 60 = .ok (.aload_n 0, 1) := by decide +kernel
theorem dX8_is_61 : decode cX8_is 61 = .ok (.getfield 170, 3) := by decide +kernel
theorem dX8_is_64 : decode cX8_is 64 = .ok (.iload_n 3, 1) := by decide +kernel
theorem dX8_is_65 : decode cX8_is 65 = .ok (.iadd, 1) := by decide +kernel
theorem dX8_is_66 : decode cX8_is 66 = .ok (.iaload, 1) := by decide +kernel
theorem dX8_is_67 : decode cX8_is 67 = .ok (.if_icmp .ne 7, 3) := by decide +kernel
theorem dX8_is_70 : decode cX8_is 70 = .ok (.iconst 1, 1) := by decide +kernel
theorem dX8_is_71 : decode cX8_is 71 = .ok (.goto 4, 3) := by decide +kernel
theorem dX8_is_74 : decode cX8_is 74 = .ok (.iconst 0, 1) := by decide +kernel
theorem dX8_is_75 : decode cX8_is 75 = .ok (.istore_n 2, 1) := by decide +kernel
theorem dX8_is_76 : decode cX8_is 76 = .ok (.iinc 3 1, 3) := by decide +kernel
theorem dX8_is_79 : decode cX8_is 79 = .ok (.goto (-40), 3) := by decide +kernel
theorem dX8_is_82 : decode cX8_is 82 = .ok (.iload_n 2, 1) := by decide +kernel
theorem dX8_is_83 : decode cX8_is 83 = .ok (.ireturn, 1) := by decide +kernel
theorem dX8_which_0 : decode cX8_which 0 = .ok (.iconst 0, 1) := by decide +kernel
theorem dX8_which_1 : decode cX8_which 1 = .ok (.istore_n 2, 1) := by decide +kernel
theorem dX8_which_2 : decode cX8_which 2 = .ok (.iload_n 2, 1) := by decide +kernel
theorem dX8_which_3 : decode cX8_which 3 = .ok (.aload_n 1, 1) := by decide +kernel
theorem dX8_which_4 : decode cX8_which 4 = .ok (.arraylength, 1) := by decide +kernel
theorem dX8_which_5 : decode cX8_which 5 = .ok (.if_icmp .ge 21, 3) := by decide +kernel
theorem dX8_which_8 : decode cX8_which 8 = .ok (.aload_n 0, 1) := by decide +kernel
theorem dX8_which_9 : decode cX8_which 9 = .ok (.aload_n 1, 1) := by decide +kernel
theorem dX8_which_10 : decode cX8_which 10 = .ok (.iload_n 2, 1) := by decide +kernel
theorem dX8_which_11 : decode cX8_which 11 = .ok (.aaload, 1) := by decide +kernel
theorem dX8_which_12 : decode cX8_which 12 = .ok (.invokevirtual 213, 3) := by decide +kernel
theorem dX8_which_15 : decode cX8_which 15 = .ok (.ifCond .eq 5, 3) := by decide +kernel
theorem dX8_which_18 : decode cX8_which 18 = .ok (.iload_n 2, 1) := by decide +kernel
theorem dX8_which_19 : decode cX8_which 19 = .ok (.ireturn, 1) := by decide +kernel
theorem dX8_which_20 : decode cX8_which 20 = .ok (.iinc 2 1, 3) := by decide +kernel
theorem dX8_which_23 : decode cX8_which 23 = .ok (.goto (-21), 3) := by decide +kernel
theorem dX8_which_26 : decode cX8_which 26 = .ok (.iconst (-1), 1) := by decide +kernel
theorem dX8_which_27 : decode cX8_which 27 = .ok (.ireturn, 1) := by decide +kernel
theorem dX8_isMarked_0 : decode cX8_isMarked 0 = .ok (.aload_n 0, 1) := by decide +kernel
theorem dX8_isMarked_1 : decode cX8_isMarked 1 = .ok (.getfield 199, 3) := by decide +kernel
theorem dX8_isMarked_4 : decode cX8_isMarked 4 = .ok (.ifCond .ne 28, 3) := by decide +kernel
theorem dX8_isMarked_7 : decode cX8_isMarked 7 = .ok (.aload_n 0, 1) := by decide +kernel
theorem dX8_isMarked_8 : decode cX8_isMarked 8 = .ok (.getfield 173, 3) := by decide +kernel
theorem dX8_isMarked_11 : decode cX8_isMarked 11 = .ok (.iconst 3, 1) := by decide +kernel
theorem dX8_isMarked_12 : decode cX8_isMarked 12 = .ok (.if_icmp .ne 20, 3) := by decide +kernel
theorem dX8_isMarked_15 : decode cX8_isMarked 15 = .ok (.aload_n 0, 1) := by decide +kernel
theorem dX8_isMarked_16 : decode cX8_isMarked 16 = .ok (.getfield 63, 3) := by decide +kernel
theorem dX8_isMarked_19 : decode cX8_isMarked 19 = .ok (.aload_n 0, 1) := by decide +kernel
theorem dX8_isMarked_20 : decode cX8_isMarked 20 = .ok (.getfield 170, 3) := by decide +kernel
theorem dX8_isMarked_23 : decode cX8_isMarked 23 = .ok (.iaload, 1) := by decide +kernel
theorem dX8_isMarked_24 : decode cX8_isMarked 24 = .ok (.iload_n 1, 1) := by decide +kernel
theorem dX8_isMarked_25 : decode cX8_isMarked 25 = .ok (.if_icmp .ne 7, 3) := by decide +kernel
theorem dX8_isMarked_28 : decode cX8_isMarked 28 = .ok (.iconst 1, 1) := by decide +kernel
theorem dX8_isMarked_29 : decode cX8_isMarked 29 = .ok (.goto 4, 3) := by decide +kernel
theorem dX8_isMarked_32 : decode cX8_isMarked 32 = .ok (.iconst 0, 1) := by decide +kernel
theorem dX8_isMarked_33 : decode cX8_isMarked 33 = .ok (.ireturn, 1) := by decide +kernel
theorem dX8_mark_0 : decode cX8_mark 0 = .ok (.aload_n 0, 1) := by decide +kernel
theorem dX8_mark_1 : decode cX8_mark 1 = .ok (.getfield 199, 3) := by decide +kernel
theorem dX8_mark_4 : decode cX8_mark 4 = .ok (.ifCond .ne 16, 3) := by decide +kernel
theorem dX8_mark_7 : decode cX8_mark 7 = .ok (.aload_n 0, 1) := by decide +kernel
theorem dX8_mark_8 : decode cX8_mark 8 = .ok (.iload_n 1, 1) := by decide +kernel
theorem dX8_mark_9 : decode cX8_mark 9 = .ok (.invokevirtual 217, 3) := by decide +kernel
theorem dX8_mark_12 : decode cX8_mark 12 = .ok (.ifCond .ne 8, 3) := by decide +kernel
theorem dX8_mark_15 : decode cX8_mark 15 = .ok (.aload_n 0, 1) := by decide +kernel
theorem dX8_mark_16 : decode cX8_mark 16 = .ok (.iconst 1, 1) := by decide +kernel
theorem dX8_mark_17 : decode cX8_mark 17 = .ok (.invokevirtual 220, 3) := by decide +kernel
theorem dX8_mark_20 : decode cX8_mark 20 = .ok (.aload_n 0, 1) := by decide +kernel
theorem dX8_mark_21 : decode cX8_mark 21 = .ok (.getfield 199, 3) := by decide +kernel
theorem dX8_mark_24 : decode cX8_mark 24 = .ok (.ifCond .ne 7, 3) := by decide +kernel
theorem dX8_mark_27 : decode cX8_mark 27 = .ok (.aload_n 0, 1) := by decide +kernel
theorem dX8_mark_28 : decode cX8_mark 28 = .ok (.invokevirtual 224, 3) := by decide +kernel
theorem dX8_mark_31 : decode cX8_mark 31 = .ok (.return_, 1) := by decide +kernel
theorem dX8_numberNow_0 : decode cX8_numberNow 0 = .ok (.aload_n 0, 1) := by decide +kernel
theorem dX8_numberNow_1 : decode cX8_numberNow 1 = .ok (.getfield 199, 3) := by decide +kernel
theorem dX8_numberNow_4 : decode cX8_numberNow 4 = .ok (.ifCond .eq 5, 3) := by decide +kernel
theorem dX8_numberNow_7 : decode cX8_numberNow 7 = .ok (.iconst 0, 1) := by decide +kernel
theorem dX8_numberNow_8 : decode cX8_numberNow 8 = .ok (.ireturn, 1) := by decide +kernel
theorem dX8_numberNow_9 : decode cX8_numberNow 9 = .ok (.aload_n 0, 1) := by decide +kernel
theorem dX8_numberNow_10 : decode cX8_numberNow 10 = .ok (.getfield 173, 3) := by decide +kernel
theorem dX8_numberNow_13 : decode cX8_numberNow 13 = .ok (.iconst 2, 1) := by decide +kernel
theorem dX8_numberNow_14 : decode cX8_numberNow 14 = .ok (.if_icmp .eq 11, 3) := by decide +kernel
theorem dX8_numberNow_17 : decode cX8_numberNow 17 = .ok (.aload_n 0, 1) := by decide +kernel
theorem dX8_numberNow_18 : decode cX8_numberNow 18 = .ok (.iconst 1, 1) := by decide +kernel
theorem dX8_numberNow_19 : decode cX8_numberNow 19 = .ok (.invokevirtual 220, 3) := by decide +kernel
theorem dX8_numberNow_22 : decode cX8_numberNow 22 = .ok (.goto 37, 3) := by decide +kernel
theorem dX8_numberNow_25 : decode cX8_numberNow 25 = .ok (.aload_n 0, 1) := by decide +kernel
theorem dX8_numberNow_26 : decode cX8_numberNow 26 = .ok (.getfield 196, 3) := by decide +kernel
theorem dX8_numberNow_29 : decode cX8_numberNow 29 = .ok (.aload_n 0, 1) := by decide +kernel
theorem dX8_numberNow_30 : decode cX8_numberNow 30 = .ok (.getfield 170, 3) := by decide +kernel
theorem dX8_numberNow_33 : decode cX8_numberNow 33 = .ok (.isub, 1) := by decide +kernel
theorem dX8_numberNow_34 : decode cX8_numberNow 34 = .ok (.iconst 4, 1) := by decide +kernel
theorem dX8_numberNow_35 : decode cX8_numberNow 35 = .ok (.if_icmp .gt 19, 3) := by decide +kernel
theorem dX8_numberNow_38 : decode cX8_numberNow 38 = .ok (.aload_n 0, 1) := by decide +kernel
theorem dX8_numberNow_39 : decode cX8_numberNow 39 = .ok (.getfield 183, 3) := by decide +kernel
theorem dX8_numberNow_42 : decode cX8_numberNow 42 = .ok (.iload_n 1, 1) := by decide +kernel
theorem dX8_numberNow_43 : decode cX8_numberNow 43 = .ok (.if_icmp .lt 11, 3) := by decide +kernel
theorem dX8_numberNow_46 : decode cX8_numberNow 46 = .ok (.aload_n 0, 1) := by decide +kernel
theorem dX8_numberNow_47 : decode cX8_numberNow 47 = .ok (.getfield 183, 3) := by decide +kernel
theorem dX8_numberNow_50 : decode cX8_numberNow 50 = .ok (.iload_n 2, 1) := by decide +kernel
theorem dX8_numberNow_51 : decode cX8_numberNow 51 = .ok (.if_icmp .le 8, 3) := by decide +kernel
theorem dX8_numberNow_54 : decode cX8_numberNow 54 = .ok (.aload_n 0, 1) := by decide +kernel
theorem dX8_numberNow_55 : decode cX8_numberNow 55 = .ok (.iconst 2, 1) := by decide +kernel
theorem dX8_numberNow_56 : decode cX8_numberNow 56 = .ok (.invokevirtual 220, 3) := by decide +kernel
theorem dX8_numberNow_59 : decode cX8_numberNow 59 = .ok (.aload_n 0, 1) := by decide +kernel
theorem dX8_numberNow_60 : decode cX8_numberNow 60 = .ok (.getfield 199, 3) := by decide +kernel
theorem dX8_numberNow_63 : decode cX8_numberNow 63 = .ok (.ifCond .ne 10, 3) := by decide +kernel
theorem dX8_numberNow_66 : decode cX8_numberNow 66 = .ok (.aload_n 0, 1) := by decide +kernel
theorem dX8_numberNow_67 : decode cX8_numberNow 67 = .ok (.getfield 183, 3) := by decide +kernel
theorem dX8_numberNow_70 : decode cX8_numberNow 70 = .ok (.goto 4, 3) := by decide +kernel
theorem dX8_numberNow_73 : decode cX8_numberNow 73 = .ok (.iconst 0, 1) := by decide +kernel
theorem dX8_numberNow_74 : decode cX8_numberNow 74 = .ok (.ireturn, 1) := by decide +kernel
theorem dX8_readNumber_0 : decode cX8_readNumber 0 = .ok (.aload_n 0, 1) := by decide +kernel
theorem dX8_readNumber_1 : decode cX8_readNumber 1 = .ok (.iload_n 1, 1) := by decide +kernel
theorem dX8_readNumber_2 : decode cX8_readNumber 2 = .ok (.iload_n 2, 1) := by decide +kernel
theorem dX8_readNumber_3 : decode cX8_readNumber 3 = .ok (.invokevirtual 227, 3) := by decide +kernel
theorem dX8_readNumber_6 : decode cX8_readNumber 6 = .ok (.istore_n 3, 1) := by decide +kernel
theorem dX8_readNumber_7 : decode cX8_readNumber 7 = .ok (.aload_n 0, 1) := by decide +kernel
theorem dX8_readNumber_8 : decode cX8_readNumber 8 = .ok (.getfield 199, 3) := by decide +kernel
theorem dX8_readNumber_11 : decode cX8_readNumber 11 = .ok (.ifCond .ne 7, 3) := by decide +kernel
theorem dX8_readNumber_14 : decode cX8_readNumber 14 = .ok (.aload_n 0, 1) := by decide +kernel
theorem dX8_readNumber_15 : decode cX8_readNumber 15 = .ok (.invokevirtual 224, 3) := by decide +kernel
theorem dX8_readNumber_18 : decode cX8_readNumber 18 = .ok (.iload_n 3, 1) := by decide +kernel
theorem dX8_readNumber_19 : decode cX8_readNumber 19 = .ok (.ireturn, 1) := by decide +kernel
theorem dX8_townNow_0 : decode cX8_townNow 0 = .ok (.aload_n 0, 1) := by decide +kernel
theorem dX8_townNow_1 : decode cX8_townNow 1 = .ok (.iconst 0, 1) := by decide +kernel
theorem dX8_townNow_2 : decode cX8_townNow 2 = .ok (.sipush 9999, 3) := by decide +kernel
theorem dX8_townNow_5 : decode cX8_townNow 5 = .ok (.invokevirtual 227, 3) := by decide +kernel
theorem dX8_townNow_8 : decode cX8_townNow 8 = .ok (.istore_n 1, 1) := by decide +kernel
theorem dX8_townNow_9 : decode cX8_townNow 9 = .ok (.aload_n 0, 1) := by decide +kernel
theorem dX8_townNow_10 : decode cX8_townNow 10 = .ok (.getfield 199, 3) := by decide +kernel
theorem dX8_townNow_13 : decode cX8_townNow 13 = .ok (.ifCond .ne 19, 3) := by decide +kernel
theorem dX8_townNow_16 : decode cX8_townNow 16 = .ok (.iload_n 1, 1) := by decide +kernel
theorem dX8_townNow_17 : decode cX8_townNow 17 = .ok (.aload_n 0, 1) := by decide +kernel
theorem dX8_townNow_18 : decode cX8_townNow 18 = .ok (.getfield 34, 3) := by decide +kernel
theorem dX8_townNow_21 : decode cX8_townNow 21 = .ok (.bipush 7, 2) := by decide +kernel
theorem dX8_townNow_23 : decode cX8_townNow 23 = .ok (.iaload, 1) := by decide +kernel
theorem dX8_townNow_24 : decode cX8_townNow 24 = .ok (.if_icmp .lt 8, 3) := by decide +kernel
theorem dX8_townNow_27 : decode cX8_townNow 27 = .ok (.aload_n 0, 1) := by decide +kernel
theorem dX8_townNow_28 : decode cX8_townNow 28 = .ok (.iconst 3, 1) := by decide +kernel
theorem dX8_townNow_29 : decode cX8_townNow 29 = .ok (.invokevirtual 220, 3) := by decide +kernel
theorem dX8_townNow_32 : decode cX8_townNow 32 = .ok (.aload_n 0, 1) := by decide +kernel
theorem dX8_townNow_33 : decode cX8_townNow 33 = .ok (.getfield 199, 3) := by decide +kernel
theorem dX8_townNow_36 : decode cX8_townNow 36 = .ok (.ifCond .ne 7, 3) := by decide +kernel
theorem dX8_townNow_39 : decode cX8_townNow 39 = .ok (.iload_n 1, 1) := by decide +kernel
theorem dX8_townNow_40 : decode cX8_townNow 40 = .ok (.goto 4, 3) := by decide +kernel
theorem dX8_townNow_43 : decode cX8_townNow 43 = .ok (.iconst 0, 1) := by decide +kernel
theorem dX8_townNow_44 : decode cX8_townNow 44 = .ok (.ireturn, 1) := by decide +kernel
theorem dX8_lay_0 : decode cX8_lay 0 = .ok (.aload_n 0, 1) := by decide +kernel
theorem dX8_lay_1 : decode cX8_lay 1 = .ok (.getfield 199, 3) := by decide +kernel
theorem dX8_lay_4 : decode cX8_lay 4 = .ok (.ifCond .eq 4, 3) := by decide +kernel
theorem dX8_lay_7 : decode cX8_lay 7 = .ok (.return_, 1) := by decide +kernel
theorem dX8_lay_8 : decode cX8_lay 8 = .ok (.aload_n 0, 1) := by decide +kernel
theorem dX8_lay_9 : decode cX8_lay 9 = .ok (.getfield 57, 3) := by decide +kernel
theorem dX8_lay_12 : decode cX8_lay 12 = .ok (.sipush 600, 3) := by decide +kernel
theorem dX8_lay_15 : decode cX8_lay 15 = .ok (.aload_n 0, 1) := by decide +kernel
theorem dX8_lay_16 : decode cX8_lay 16 = .ok (.getfield 34, 3) := by decide +kernel
theorem dX8_lay_19 : decode cX8_lay 19 = .ok (.bipush 13, 2) := by decide +kernel
theorem dX8_lay_21 : decode cX8_lay 21 = .ok (.iaload, 1) := by decide +kernel
theorem dX8_lay_22 : decode cX8_lay 22 = .ok (.iadd, 1) := by decide +kernel
theorem dX8_lay_23 : decode cX8_lay 23 = .ok (.iload_n 1, 1) := by decide +kernel
theorem dX8_lay_24 : decode cX8_lay 24 = .ok (.iastore, 1) := by decide +kernel
theorem dX8_lay_25 : decode cX8_lay 25 = .ok (.aload_n 0, 1) := by decide +kernel
theorem dX8_lay_26 : decode cX8_lay 26 = .ok (.getfield 34, 3) := by decide +kernel
theorem dX8_lay_29 : decode cX8_lay 29 = .ok (.bipush 13, 2) := by decide +kernel
theorem dX8_lay_31 : decode cX8_lay 31 = .ok (.dup2, 1) := by decide +kernel
theorem dX8_lay_32 : decode cX8_lay 32 = .ok (.iaload, 1) := by decide +kernel
theorem dX8_lay_33 : decode cX8_lay 33 = .ok (.iconst 1, 1) := by decide +kernel
theorem dX8_lay_34 : decode cX8_lay 34 = .ok (.iadd, 1) := by decide +kernel
theorem dX8_lay_35 : decode cX8_lay 35 = .ok (.iastore, 1) := by decide +kernel
theorem dX8_lay_36 : decode cX8_lay 36 = .ok (.return_, 1) := by decide +kernel
def f_X8_feed_76 (k23 : Mem → Int32 → Int32 → Int32 → Int32 → Int32 → Int32 → Option (Int32 × Mem))  (I : Mem) (v1 : Int32) (v2 : Int32) (v3 : Int32) (v4 : Int32) (v5 : Int32) (v6 : Int32) (s0 : Int32) : Option (Int32 × Mem) :=
  gd (inb (I 8 0 0 14) 600) <|
  bnd (upd4 I 60 0 0 ((I 8 0 0 14).toNatClampNeg) ((jshr s0 ((24 : Int32) - ((8 : Int32) * (jrem v6 (4 : Int32))))) &&& (255 : Int32))) fun I1' =>
  bnd (upd4 I1' 8 0 0 14 ((I1' 8 0 0 14) + (1 : Int32))) fun I2' =>
  k23 I2' v1 v2 v3 v4 v5 (v6 + (1 : Int32))
theorem b_X8_feed_76 (X : CX) (Q : State → Prop) {I : Mem} {P : PMem} {O : Nat → Int64} {D : Bool} {n : Nat} {k23 : Mem → Int32 → Int32 → Int32 → Int32 → Int32 → Int32 → Option (Int32 × Mem)} {v1 : Int32} {v2 : Int32} {v3 : Int32} {v4 : Int32} {v5 : Int32} {v6 : Int32} {s0 : Int32} {r : (Int32 × Mem)}  (H23 : ∀ (I : Mem) (v1 : Int32) (v2 : Int32) (v3 : Int32) (v4 : Int32) (v5 : Int32) (v6 : Int32), k23 I v1 v2 v3 v4 v5 v6 = some r → Here X cX8_feed RX8 8 (some .int) 2 n 23 [some (.inr (.inr (8, 0, 0))), some (.inl v1), some (.inl v2), some (.inl v3), some (.inl v4), some (.inl v5), some (.inl v6), none] [] I P O D n Q) (h : f_X8_feed_76 k23 I v1 v2 v3 v4 v5 v6 s0 = some r) (E : EndR X cX8_feed RX8 8 (some .int) 2 n (some (.inl r.1)) r.2 P O D Q) : Here X cX8_feed RX8 8 (some .int) 2 n 76 [some (.inr (.inr (8, 0, 0))), some (.inl v1), some (.inl v2), some (.inl v3), some (.inl v4), some (.inl v5), some (.inl v6), none] [.inl s0] I P O D n Q := by
  unfold f_X8_feed_76 at h
  refine h_istore dX8_feed_76 (by decide) rfl ?_
  refine h_aload_n dX8_feed_78 rfl ?_
  refine g_X8_63  dX8_feed_79 ?_
  refine h_aload_n dX8_feed_82 rfl ?_
  refine g_X8_157  dX8_feed_83 ?_
  refine h_iload dX8_feed_86 rfl ?_
  refine h_bipush (24 : Int32) dX8_feed_88 k_bipush_24 ?_
  refine h_bipush (8 : Int32) dX8_feed_90 k_bipush_8 ?_
  refine h_iload dX8_feed_92 rfl ?_
  refine h_iconst (4 : Int32) dX8_feed_94 k_iconst_4 ?_
  refine h_rem dX8_feed_95 (by decide) ?_
  refine h_imul dX8_feed_96 ?_
  refine h_isub dX8_feed_97 ?_
  refine h_shr dX8_feed_98 ?_
  refine h_sipush (255 : Int32) dX8_feed_99 k_sipush_255 ?_
  refine h_iand dX8_feed_102 ?_
  obtain ⟨g1, h⟩ := gd_some h
  obtain ⟨I1', e1, h⟩ := bnd_some h
  refine as_60  ((I 8 0 0 14).toNatClampNeg) rfl dX8_feed_103 g1 ?_
  refine h_nmI e1 ?_
  refine h_aload_n dX8_feed_104 rfl ?_
  refine h_dup dX8_feed_105 (fun _ => rfl) ?_
  refine g_X8_157  dX8_feed_106 ?_
  refine h_iconst (1 : Int32) dX8_feed_109 k_iconst_1 ?_
  refine h_iadd dX8_feed_110 ?_
  obtain ⟨I2', e2, h⟩ := bnd_some h
  refine p_X8_157  dX8_feed_111 ?_
  refine h_nmI e2 ?_
  refine h_iinc (1 : Int32) dX8_feed_114 rfl k_iinc_1 (by decide) rfl ?_
  refine h_goto (tgt := 23) dX8_feed_117 (by decide) ?_
  exact h_mask [true, true, true, true, true, true, true, false] (H23 _ _ _ _ _ _ _ h)
def f_X8_feed_23   : Nat → Mem → Int32 → Int32 → Int32 → Int32 → Int32 → Int32 → Option (Int32 × Mem)
  | 0, _, _, _, _, _, _, _ => none
  | fu + 1, I, v1, v2, v3, v4, v5, v6 =>
    if (20 : Int32) ≤ v6 then (some ((I 8 0 0 14), I)) else (if (4 : Int32) ≤ v6 then (if (8 : Int32) ≤ v6 then (if (12 : Int32) ≤ v6 then (if (16 : Int32) ≤ v6 then (f_X8_feed_76 (f_X8_feed_23 fu) I v1 v2 v3 v4 v5 v6 v5) else (f_X8_feed_76 (f_X8_feed_23 fu) I v1 v2 v3 v4 v5 v6 v4)) else (f_X8_feed_76 (f_X8_feed_23 fu) I v1 v2 v3 v4 v5 v6 v3)) else (f_X8_feed_76 (f_X8_feed_23 fu) I v1 v2 v3 v4 v5 v6 v2)) else (f_X8_feed_76 (f_X8_feed_23 fu) I v1 v2 v3 v4 v5 v6 v1))
theorem b_X8_feed_23 (X : CX) (Q : State → Prop) {P : PMem} {O : Nat → Int64} {D : Bool} {n : Nat} {r : (Int32 × Mem)}  : ∀ (fu : Nat) {I : Mem} {v1 : Int32} {v2 : Int32} {v3 : Int32} {v4 : Int32} {v5 : Int32} {v6 : Int32}, f_X8_feed_23 fu I v1 v2 v3 v4 v5 v6 = some r → EndR X cX8_feed RX8 8 (some .int) 2 n (some (.inl r.1)) r.2 P O D Q → Here X cX8_feed RX8 8 (some .int) 2 n 23 [some (.inr (.inr (8, 0, 0))), some (.inl v1), some (.inl v2), some (.inl v3), some (.inl v4), some (.inl v5), some (.inl v6), none] [] I P O D n Q := by
  intro fu
  induction fu with
  | zero => intro I v1 v2 v3 v4 v5 v6 h E; cases h
  | succ fu ih =>
  intro I v1 v2 v3 v4 v5 v6 h E
  have H23 : ∀ (I : Mem) (v1 : Int32) (v2 : Int32) (v3 : Int32) (v4 : Int32) (v5 : Int32) (v6 : Int32), f_X8_feed_23 fu I v1 v2 v3 v4 v5 v6 = some r → Here X cX8_feed RX8 8 (some .int) 2 n 23 [some (.inr (.inr (8, 0, 0))), some (.inl v1), some (.inl v2), some (.inl v3), some (.inl v4), some (.inl v5), some (.inl v6), none] [] I P O D n Q := fun _ _ _ _ _ _ _ b => ih b E
  simp only [f_X8_feed_23] at h
  refine h_iload dX8_feed_23 rfl ?_
  refine h_bipush (20 : Int32) dX8_feed_25 k_bipush_20 ?_
  refine h_icmp_ge (tgt := 120) dX8_feed_27 (by decide) (fun q1 => ?_) (fun q1 => ?_)
  · rw [if_pos q1] at h
    refine h_aload_n dX8_feed_120 rfl ?_
    refine g_X8_157  dX8_feed_121 ?_
    cases h
    exact h_iret dX8_feed_124 rfl E
  · rw [if_neg q1] at h
    refine h_iload dX8_feed_30 rfl ?_
    refine h_iconst (4 : Int32) dX8_feed_32 k_iconst_4 ?_
    refine h_icmp_ge (tgt := 40) dX8_feed_33 (by decide) (fun q2 => ?_) (fun q2 => ?_)
    · rw [if_pos q2] at h
      refine h_iload dX8_feed_40 rfl ?_
      refine h_bipush (8 : Int32) dX8_feed_42 k_bipush_8 ?_
      refine h_icmp_ge (tgt := 51) dX8_feed_44 (by decide) (fun q3 => ?_) (fun q3 => ?_)
      · rw [if_pos q3] at h
        refine h_iload dX8_feed_51 rfl ?_
        refine h_bipush (12 : Int32) dX8_feed_53 k_bipush_12 ?_
        refine h_icmp_ge (tgt := 62) dX8_feed_55 (by decide) (fun q4 => ?_) (fun q4 => ?_)
        · rw [if_pos q4] at h
          refine h_iload dX8_feed_62 rfl ?_
          refine h_bipush (16 : Int32) dX8_feed_64 k_bipush_16 ?_
          refine h_icmp_ge (tgt := 74) dX8_feed_66 (by decide) (fun q5 => ?_) (fun q5 => ?_)
          · rw [if_pos q5] at h
            refine h_iload dX8_feed_74 rfl ?_
            exact (b_X8_feed_76 X Q H23  h E)
          · rw [if_neg q5] at h
            refine h_iload dX8_feed_69 rfl ?_
            refine h_goto (tgt := 76) dX8_feed_71 (by decide) ?_
            exact (b_X8_feed_76 X Q H23  h E)
        · rw [if_neg q4] at h
          refine h_iload_n dX8_feed_58 rfl ?_
          refine h_goto (tgt := 76) dX8_feed_59 (by decide) ?_
          exact (b_X8_feed_76 X Q H23  h E)
      · rw [if_neg q3] at h
        refine h_iload_n dX8_feed_47 rfl ?_
        refine h_goto (tgt := 76) dX8_feed_48 (by decide) ?_
        exact (b_X8_feed_76 X Q H23  h E)
    · rw [if_neg q2] at h
      refine h_iload_n dX8_feed_36 rfl ?_
      refine h_goto (tgt := 76) dX8_feed_37 (by decide) ?_
      exact (b_X8_feed_76 X Q H23  h E)
def f_X8_feed   (I : Mem) (v1 : Int32) (v2 : Int32) (v3 : Int32) (v4 : Int32) (v5 : Int32) : Option (Int32 × Mem) :=
  bnd (upd4 I 8 0 0 2 (0 : Int32)) fun I1' =>
  if ((I1' 8 0 0 14) + (20 : Int32)) ≤ (600 : Int32) then (f_X8_feed_23 FU I1' v1 v2 v3 v4 v5 (0 : Int32)) else (some ((-1 : Int32), I1'))
theorem b_X8_feed (X : CX) (Q : State → Prop) {I : Mem} {P : PMem} {O : Nat → Int64} {D : Bool} {n : Nat} {v1 : Int32} {v2 : Int32} {v3 : Int32} {v4 : Int32} {v5 : Int32} {r : (Int32 × Mem)}  (h : f_X8_feed I v1 v2 v3 v4 v5 = some r) (E : EndR X cX8_feed RX8 8 (some .int) 2 n (some (.inl r.1)) r.2 P O D Q) : Here X cX8_feed RX8 8 (some .int) 2 n 0 [some (.inr (.inr (8, 0, 0))), some (.inl v1), some (.inl v2), some (.inl v3), some (.inl v4), some (.inl v5), none, none] [] I P O D n Q := by
  unfold f_X8_feed at h
  refine h_aload_n dX8_feed_0 rfl ?_
  refine h_iconst (0 : Int32) dX8_feed_1 k_iconst_0 ?_
  obtain ⟨I1', e1, h⟩ := bnd_some h
  refine p_X8_150  dX8_feed_2 ?_
  refine h_nmI e1 ?_
  refine h_aload_n dX8_feed_5 rfl ?_
  refine g_X8_157  dX8_feed_6 ?_
  refine h_bipush (20 : Int32) dX8_feed_9 k_bipush_20 ?_
  refine h_iadd dX8_feed_11 ?_
  refine h_sipush (600 : Int32) dX8_feed_12 k_sipush_600 ?_
  refine h_icmp_le (tgt := 20) dX8_feed_15 (by decide) (fun q1 => ?_) (fun q1 => ?_)
  · rw [if_pos q1] at h
    refine h_iconst (0 : Int32) dX8_feed_20 k_iconst_0 ?_
    refine h_istore dX8_feed_21 (by decide) rfl ?_
    exact (b_X8_feed_23 X Q FU  h E)
  · rw [if_neg q1] at h
    refine h_iconst (-1 : Int32) dX8_feed_18 k_iconst_m1 ?_
    cases h
    exact h_iret dX8_feed_19 rfl E
theorem m_X8_feed {I : Mem} {P : PMem} {O : Nat → Int64} {D : Bool} {n : Nat} {v1 : Int32} {v2 : Int32} {v3 : Int32} {v4 : Int32} {v5 : Int32} {r : (Int32 × Mem)}  (h : f_X8_feed I v1 v2 v3 v4 v5 = some r) : MethR yX8_feed cX8_feed 8 (some .int) 2 [.inr (.inr (8, 0, 0)), .inl v1, .inl v2, .inl v3, .inl v4, .inl v5] I P O D n (some (.inl r.1)) r.2 P O D n := meth_R (Nat.le_refl _) (by decide) rfl (Nat.le_of_ble_eq_true rfl) rfl (fun X Q E => b_X8_feed X Q  h E)
def f_X8_byteAt  (I : Mem) (v1 : Int32) : Option (Int32) :=
  if (I 8 0 0 16) ≤ v1 then (some (-1 : Int32)) else (gd (inb v1 600) <|
  some (I 60 0 0 v1.toNatClampNeg))
theorem b_X8_byteAt (X : CX) (Q : State → Prop) {I : Mem} {P : PMem} {O : Nat → Int64} {D : Bool} {n : Nat} {v1 : Int32} {r : (Int32)}  (h : f_X8_byteAt I v1 = some r) (E : EndR X cX8_byteAt RX8 2 (some .int) 2 n (some (.inl r)) I P O D Q) : Here X cX8_byteAt RX8 2 (some .int) 2 n 0 [some (.inr (.inr (8, 0, 0))), some (.inl v1)] [] I P O D n Q := by
  unfold f_X8_byteAt at h
  refine h_iload_n dX8_byteAt_0 rfl ?_
  refine h_aload_n dX8_byteAt_1 rfl ?_
  refine g_X8_160  dX8_byteAt_2 ?_
  refine h_icmp_ge (tgt := 17) dX8_byteAt_5 (by decide) (fun q1 => ?_) (fun q1 => ?_)
  · rw [if_pos q1] at h
    refine h_iconst (-1 : Int32) dX8_byteAt_17 k_iconst_m1 ?_
    cases h
    exact h_iret dX8_byteAt_18 rfl E
  · rw [if_neg q1] at h
    refine h_aload_n dX8_byteAt_8 rfl ?_
    refine g_X8_63  dX8_byteAt_9 ?_
    refine h_iload_n dX8_byteAt_12 rfl ?_
    obtain ⟨g1, h⟩ := gd_some h
    refine al_60  v1.toNatClampNeg rfl dX8_byteAt_13 g1 ?_
    refine h_goto (tgt := 18) dX8_byteAt_14 (by decide) ?_
    cases h
    exact h_iret dX8_byteAt_18 rfl E
theorem m_X8_byteAt {I : Mem} {P : PMem} {O : Nat → Int64} {D : Bool} {n : Nat} {v1 : Int32} {r : (Int32)}  (h : f_X8_byteAt I v1 = some r) : MethR yX8_byteAt cX8_byteAt 2 (some .int) 2 [.inr (.inr (8, 0, 0)), .inl v1] I P O D n (some (.inl r)) I P O D n := meth_R (Nat.le_refl _) (by decide) rfl (Nat.le_of_ble_eq_true rfl) rfl (fun X Q E => b_X8_byteAt X Q  h E)
def f_X8_isLetter  (I : Mem) (v0 : Int32) : Option (Int32) :=
  if v0 < (97 : Int32) then (some (0 : Int32)) else (if (122 : Int32) < v0 then (some (0 : Int32)) else (some (1 : Int32)))
theorem b_X8_isLetter (X : CX) (Q : State → Prop) {I : Mem} {P : PMem} {O : Nat → Int64} {D : Bool} {n : Nat} {v0 : Int32} {r : (Int32)}  (h : f_X8_isLetter I v0 = some r) (E : EndR X cX8_isLetter RX8 1 (some .boolean) 2 n (some (.inl r)) I P O D Q) : Here X cX8_isLetter RX8 1 (some .boolean) 2 n 0 [some (.inl v0)] [] I P O D n Q := by
  unfold f_X8_isLetter at h
  refine h_iload_n dX8_isLetter_0 rfl ?_
  refine h_bipush (97 : Int32) dX8_isLetter_1 k_bipush_97 ?_
  refine h_icmp_lt (tgt := 16) dX8_isLetter_3 (by decide) (fun q1 => ?_) (fun q1 => ?_)
  · rw [if_pos q1] at h
    refine h_iconst (0 : Int32) dX8_isLetter_16 k_iconst_0 ?_
    cases h
    exact h_zret dX8_isLetter_17 rfl rfl E
  · rw [if_neg q1] at h
    refine h_iload_n dX8_isLetter_6 rfl ?_
    refine h_bipush (122 : Int32) dX8_isLetter_7 k_bipush_122 ?_
    refine h_icmp_gt (tgt := 16) dX8_isLetter_9 (by decide) (fun q2 => ?_) (fun q2 => ?_)
    · rw [if_pos q2] at h
      refine h_iconst (0 : Int32) dX8_isLetter_16 k_iconst_0 ?_
      cases h
      exact h_zret dX8_isLetter_17 rfl rfl E
    · rw [if_neg q2] at h
      refine h_iconst (1 : Int32) dX8_isLetter_12 k_iconst_1 ?_
      refine h_goto (tgt := 17) dX8_isLetter_13 (by decide) ?_
      cases h
      exact h_zret dX8_isLetter_17 rfl rfl E
theorem m_X8_isLetter {I : Mem} {P : PMem} {O : Nat → Int64} {D : Bool} {n : Nat} {v0 : Int32} {r : (Int32)}  (h : f_X8_isLetter I v0 = some r) : MethR yX8_isLetter cX8_isLetter 1 (some .boolean) 2 [.inl v0] I P O D n (some (.inl r)) I P O D n := meth_R (Nat.le_refl _) (by decide) rfl (Nat.le_of_ble_eq_true rfl) rfl (fun X Q E => b_X8_isLetter X Q  h E)
def f_X8_isDigit  (I : Mem) (v0 : Int32) : Option (Int32) :=
  if v0 < (48 : Int32) then (some (0 : Int32)) else (if (57 : Int32) < v0 then (some (0 : Int32)) else (some (1 : Int32)))
theorem b_X8_isDigit (X : CX) (Q : State → Prop) {I : Mem} {P : PMem} {O : Nat → Int64} {D : Bool} {n : Nat} {v0 : Int32} {r : (Int32)}  (h : f_X8_isDigit I v0 = some r) (E : EndR X cX8_isDigit RX8 1 (some .boolean) 2 n (some (.inl r)) I P O D Q) : Here X cX8_isDigit RX8 1 (some .boolean) 2 n 0 [some (.inl v0)] [] I P O D n Q := by
  unfold f_X8_isDigit at h
  refine h_iload_n dX8_isDigit_0 rfl ?_
  refine h_bipush (48 : Int32) dX8_isDigit_1 k_bipush_48 ?_
  refine h_icmp_lt (tgt := 16) dX8_isDigit_3 (by decide) (fun q1 => ?_) (fun q1 => ?_)
  · rw [if_pos q1] at h
    refine h_iconst (0 : Int32) dX8_isDigit_16 k_iconst_0 ?_
    cases h
    exact h_zret dX8_isDigit_17 rfl rfl E
  · rw [if_neg q1] at h
    refine h_iload_n dX8_isDigit_6 rfl ?_
    refine h_bipush (57 : Int32) dX8_isDigit_7 k_bipush_57 ?_
    refine h_icmp_gt (tgt := 16) dX8_isDigit_9 (by decide) (fun q2 => ?_) (fun q2 => ?_)
    · rw [if_pos q2] at h
      refine h_iconst (0 : Int32) dX8_isDigit_16 k_iconst_0 ?_
      cases h
      exact h_zret dX8_isDigit_17 rfl rfl E
    · rw [if_neg q2] at h
      refine h_iconst (1 : Int32) dX8_isDigit_12 k_iconst_1 ?_
      refine h_goto (tgt := 17) dX8_isDigit_13 (by decide) ?_
      cases h
      exact h_zret dX8_isDigit_17 rfl rfl E
theorem m_X8_isDigit {I : Mem} {P : PMem} {O : Nat → Int64} {D : Bool} {n : Nat} {v0 : Int32} {r : (Int32)}  (h : f_X8_isDigit I v0 = some r) : MethR yX8_isDigit cX8_isDigit 1 (some .boolean) 2 [.inl v0] I P O D n (some (.inl r)) I P O D n := meth_R (Nat.le_refl _) (by decide) rfl (Nat.le_of_ble_eq_true rfl) rfl (fun X Q E => b_X8_isDigit X Q  h E)
def f_X8_isMark  (I : Mem) (v0 : Int32) : Option (Int32) :=
  if v0 = (59 : Int32) then (some (1 : Int32)) else (if v0 = (40 : Int32) then (some (1 : Int32)) else (if v0 = (41 : Int32) then (some (1 : Int32)) else (if v0 = (43 : Int32) then (some (1 : Int32)) else (if v0 = (45 : Int32) then (some (1 : Int32)) else (if v0 = (42 : Int32) then (some (1 : Int32)) else (if v0 = (47 : Int32) then (some (1 : Int32)) else (if v0 = (60 : Int32) then (some (1 : Int32)) else (if v0 = (61 : Int32) then (some (1 : Int32)) else (some (0 : Int32))))))))))
theorem b_X8_isMark (X : CX) (Q : State → Prop) {I : Mem} {P : PMem} {O : Nat → Int64} {D : Bool} {n : Nat} {v0 : Int32} {r : (Int32)}  (h : f_X8_isMark I v0 = some r) (E : EndR X cX8_isMark RX8 1 (some .boolean) 2 n (some (.inl r)) I P O D Q) : Here X cX8_isMark RX8 1 (some .boolean) 2 n 0 [some (.inl v0)] [] I P O D n Q := by
  unfold f_X8_isMark at h
  refine h_iload_n dX8_isMark_0 rfl ?_
  refine h_bipush (59 : Int32) dX8_isMark_1 k_bipush_59 ?_
  refine h_icmp_eq (tgt := 54) dX8_isMark_3 (by decide) (fun q1 => ?_) (fun q1 => ?_)
  · rw [if_pos q1] at h
    refine h_iconst (1 : Int32) dX8_isMark_54 k_iconst_1 ?_
    refine h_goto (tgt := 59) dX8_isMark_55 (by decide) ?_
    cases h
    exact h_zret dX8_isMark_59 rfl rfl E
  · rw [if_neg q1] at h
    refine h_iload_n dX8_isMark_6 rfl ?_
    refine h_bipush (40 : Int32) dX8_isMark_7 k_bipush_40 ?_
    refine h_icmp_eq (tgt := 54) dX8_isMark_9 (by decide) (fun q2 => ?_) (fun q2 => ?_)
    · rw [if_pos q2] at h
      refine h_iconst (1 : Int32) dX8_isMark_54 k_iconst_1 ?_
      refine h_goto (tgt := 59) dX8_isMark_55 (by decide) ?_
      cases h
      exact h_zret dX8_isMark_59 rfl rfl E
    · rw [if_neg q2] at h
      refine h_iload_n dX8_isMark_12 rfl ?_
      refine h_bipush (41 : Int32) dX8_isMark_13 k_bipush_41 ?_
      refine h_icmp_eq (tgt := 54) dX8_isMark_15 (by decide) (fun q3 => ?_) (fun q3 => ?_)
      · rw [if_pos q3] at h
        refine h_iconst (1 : Int32) dX8_isMark_54 k_iconst_1 ?_
        refine h_goto (tgt := 59) dX8_isMark_55 (by decide) ?_
        cases h
        exact h_zret dX8_isMark_59 rfl rfl E
      · rw [if_neg q3] at h
        refine h_iload_n dX8_isMark_18 rfl ?_
        refine h_bipush (43 : Int32) dX8_isMark_19 k_bipush_43 ?_
        refine h_icmp_eq (tgt := 54) dX8_isMark_21 (by decide) (fun q4 => ?_) (fun q4 => ?_)
        · rw [if_pos q4] at h
          refine h_iconst (1 : Int32) dX8_isMark_54 k_iconst_1 ?_
          refine h_goto (tgt := 59) dX8_isMark_55 (by decide) ?_
          cases h
          exact h_zret dX8_isMark_59 rfl rfl E
        · rw [if_neg q4] at h
          refine h_iload_n dX8_isMark_24 rfl ?_
          refine h_bipush (45 : Int32) dX8_isMark_25 k_bipush_45 ?_
          refine h_icmp_eq (tgt := 54) dX8_isMark_27 (by decide) (fun q5 => ?_) (fun q5 => ?_)
          · rw [if_pos q5] at h
            refine h_iconst (1 : Int32) dX8_isMark_54 k_iconst_1 ?_
            refine h_goto (tgt := 59) dX8_isMark_55 (by decide) ?_
            cases h
            exact h_zret dX8_isMark_59 rfl rfl E
          · rw [if_neg q5] at h
            refine h_iload_n dX8_isMark_30 rfl ?_
            refine h_bipush (42 : Int32) dX8_isMark_31 k_bipush_42 ?_
            refine h_icmp_eq (tgt := 54) dX8_isMark_33 (by decide) (fun q6 => ?_) (fun q6 => ?_)
            · rw [if_pos q6] at h
              refine h_iconst (1 : Int32) dX8_isMark_54 k_iconst_1 ?_
              refine h_goto (tgt := 59) dX8_isMark_55 (by decide) ?_
              cases h
              exact h_zret dX8_isMark_59 rfl rfl E
            · rw [if_neg q6] at h
              refine h_iload_n dX8_isMark_36 rfl ?_
              refine h_bipush (47 : Int32) dX8_isMark_37 k_bipush_47 ?_
              refine h_icmp_eq (tgt := 54) dX8_isMark_39 (by decide) (fun q7 => ?_) (fun q7 => ?_)
              · rw [if_pos q7] at h
                refine h_iconst (1 : Int32) dX8_isMark_54 k_iconst_1 ?_
                refine h_goto (tgt := 59) dX8_isMark_55 (by decide) ?_
                cases h
                exact h_zret dX8_isMark_59 rfl rfl E
              · rw [if_neg q7] at h
                refine h_iload_n dX8_isMark_42 rfl ?_
                refine h_bipush (60 : Int32) dX8_isMark_43 k_bipush_60 ?_
                refine h_icmp_eq (tgt := 54) dX8_isMark_45 (by decide) (fun q8 => ?_) (fun q8 => ?_)
                · rw [if_pos q8] at h
                  refine h_iconst (1 : Int32) dX8_isMark_54 k_iconst_1 ?_
                  refine h_goto (tgt := 59) dX8_isMark_55 (by decide) ?_
                  cases h
                  exact h_zret dX8_isMark_59 rfl rfl E
                · rw [if_neg q8] at h
                  refine h_iload_n dX8_isMark_48 rfl ?_
                  refine h_bipush (61 : Int32) dX8_isMark_49 k_bipush_61 ?_
                  refine h_icmp_ne (tgt := 58) dX8_isMark_51 (by decide) (fun q9 => ?_) (fun q9 => ?_)
                  · rw [if_neg q9] at h
                    refine h_iconst (0 : Int32) dX8_isMark_58 k_iconst_0 ?_
                    cases h
                    exact h_zret dX8_isMark_59 rfl rfl E
                  · rw [if_pos q9] at h
                    refine h_iconst (1 : Int32) dX8_isMark_54 k_iconst_1 ?_
                    refine h_goto (tgt := 59) dX8_isMark_55 (by decide) ?_
                    cases h
                    exact h_zret dX8_isMark_59 rfl rfl E
theorem m_X8_isMark {I : Mem} {P : PMem} {O : Nat → Int64} {D : Bool} {n : Nat} {v0 : Int32} {r : (Int32)}  (h : f_X8_isMark I v0 = some r) : MethR yX8_isMark cX8_isMark 1 (some .boolean) 2 [.inl v0] I P O D n (some (.inl r)) I P O D n := meth_R (Nat.le_refl _) (by decide) rfl (Nat.le_of_ble_eq_true rfl) rfl (fun X Q E => b_X8_isMark X Q  h E)
def f_X8_stepOn_123   : Nat → Mem → Option (Mem)
  | 0, _ => none
  | fu + 1, I =>
    (f_X8_byteAt I (I 8 0 0 15)).bind fun y1 =>
    (f_X8_isDigit I y1).bind fun y2 =>
    if y2 = 0 then (bnd (upd4 I 8 0 0 17 (2 : Int32)) fun I1' =>
    bnd (upd4 I1' 8 0 0 20 (I1' 8 0 0 15)) fun I2' =>
    some I2') else ((f_X8_byteAt I (I 8 0 0 15)).bind fun y3 =>
    bnd (upd4 I 8 0 0 18 (jmin (100000 : Int32) ((((10 : Int32) * (I 8 0 0 18)) + y3) - (48 : Int32)))) fun I3' =>
    bnd (upd4 I3' 8 0 0 15 ((I3' 8 0 0 15) + (1 : Int32))) fun I4' =>
    (f_X8_stepOn_123 fu) I4')
theorem b_X8_stepOn_123 (X : CX) (Q : State → Prop) {P : PMem} {O : Nat → Int64} {D : Bool} {n : Nat} {r : (Mem)}  : ∀ (fu : Nat) {I : Mem}, f_X8_stepOn_123 fu I = some r → EndR X cX8_stepOn RX8 2 (none) 3 n none r P O D Q → Here X cX8_stepOn RX8 2 (none) 3 n 123 [some (.inr (.inr (8, 0, 0))), none] [] I P O D n Q := by
  intro fu
  induction fu with
  | zero => intro I h E; cases h
  | succ fu ih =>
  intro I h E
  have H123 : ∀ (I : Mem), f_X8_stepOn_123 fu I = some r → Here X cX8_stepOn RX8 2 (none) 3 n 123 [some (.inr (.inr (8, 0, 0))), none] [] I P O D n Q := fun _ b => ih b E
  simp only [f_X8_stepOn_123] at h
  refine h_aload_n dX8_stepOn_123 rfl ?_
  refine h_aload_n dX8_stepOn_124 rfl ?_
  refine g_X8_163  dX8_stepOn_125 ?_
  obtain ⟨y1, hh1, h⟩ := obd_some h
  refine h_cVi [.inl (I 8 0 0 15)] (m_X8_byteAt  hh1) cw_X8_166 dX8_stepOn_128 rfl ok_8 (by decide) rfl (Or.inr rfl) rfl ?_
  obtain ⟨y2, hh2, h⟩ := obd_some h
  refine h_cSi [.inl y1] (m_X8_isDigit  hh2) cs_X8_180 dX8_stepOn_131 rfl (by decide) rfl (Or.inr rfl) rfl ?_
  refine h_if_eq (tgt := 178) dX8_stepOn_134 (by decide) (fun q1 => ?_) (fun q1 => ?_)
  · rw [if_pos q1] at h
    refine h_aload_n dX8_stepOn_178 rfl ?_
    refine h_iconst (2 : Int32) dX8_stepOn_179 k_iconst_2 ?_
    obtain ⟨I1', e1, h⟩ := bnd_some h
    refine p_X8_173  dX8_stepOn_180 ?_
    refine h_nmI e1 ?_
    refine h_goto (tgt := 212) dX8_stepOn_183 (by decide) ?_
    refine h_aload_n dX8_stepOn_212 rfl ?_
    refine h_aload_n dX8_stepOn_213 rfl ?_
    refine g_X8_163  dX8_stepOn_214 ?_
    obtain ⟨I2', e2, h⟩ := bnd_some h
    refine p_X8_196  dX8_stepOn_217 ?_
    refine h_nmI e2 ?_
    cases h
    exact h_vret dX8_stepOn_220 rfl E
  · rw [if_neg q1] at h
    refine h_aload_n dX8_stepOn_137 rfl ?_
    refine h_ldci (100000 : Int32) dX8_stepOn_138 kc_X8_186 ?_
    refine h_bipush (10 : Int32) dX8_stepOn_140 k_bipush_10 ?_
    refine h_aload_n dX8_stepOn_142 rfl ?_
    refine g_X8_183  dX8_stepOn_143 ?_
    refine h_imul dX8_stepOn_146 ?_
    refine h_aload_n dX8_stepOn_147 rfl ?_
    refine h_aload_n dX8_stepOn_148 rfl ?_
    refine g_X8_163  dX8_stepOn_149 ?_
    obtain ⟨y3, hh3, h⟩ := obd_some h
    refine h_cVi [.inl (I 8 0 0 15)] (m_X8_byteAt  hh3) cw_X8_166 dX8_stepOn_152 rfl ok_8 (by decide) rfl (Or.inr rfl) rfl ?_
    refine h_iadd dX8_stepOn_155 ?_
    refine h_bipush (48 : Int32) dX8_stepOn_156 k_bipush_48 ?_
    refine h_isub dX8_stepOn_158 ?_
    refine h_min dX8_stepOn_159 ml_X8_187 wm1_min wm2 wm3_min (by decide) rfl ?_
    obtain ⟨I3', e3, h⟩ := bnd_some h
    refine p_X8_183  dX8_stepOn_162 ?_
    refine h_nmI e3 ?_
    refine h_aload_n dX8_stepOn_165 rfl ?_
    refine h_dup dX8_stepOn_166 (fun _ => rfl) ?_
    refine g_X8_163  dX8_stepOn_167 ?_
    refine h_iconst (1 : Int32) dX8_stepOn_170 k_iconst_1 ?_
    refine h_iadd dX8_stepOn_171 ?_
    obtain ⟨I4', e4, h⟩ := bnd_some h
    refine p_X8_163  dX8_stepOn_172 ?_
    refine h_nmI e4 ?_
    refine h_goto (tgt := 123) dX8_stepOn_175 (by decide) ?_
    exact (H123 _ h)
def f_X8_stepOn_76   : Nat → Mem → Option (Mem)
  | 0, _ => none
  | fu + 1, I =>
    (f_X8_byteAt I (I 8 0 0 15)).bind fun y1 =>
    (f_X8_isLetter I y1).bind fun y2 =>
    if y2 = 0 then (bnd (upd4 I 8 0 0 17 (1 : Int32)) fun I1' =>
    bnd (upd4 I1' 8 0 0 20 (I1' 8 0 0 15)) fun I2' =>
    some I2') else (bnd (upd4 I 8 0 0 15 ((I 8 0 0 15) + (1 : Int32))) fun I3' =>
    (f_X8_stepOn_76 fu) I3')
theorem b_X8_stepOn_76 (X : CX) (Q : State → Prop) {P : PMem} {O : Nat → Int64} {D : Bool} {n : Nat} {r : (Mem)}  : ∀ (fu : Nat) {I : Mem}, f_X8_stepOn_76 fu I = some r → EndR X cX8_stepOn RX8 2 (none) 3 n none r P O D Q → Here X cX8_stepOn RX8 2 (none) 3 n 76 [some (.inr (.inr (8, 0, 0))), none] [] I P O D n Q := by
  intro fu
  induction fu with
  | zero => intro I h E; cases h
  | succ fu ih =>
  intro I h E
  have H76 : ∀ (I : Mem), f_X8_stepOn_76 fu I = some r → Here X cX8_stepOn RX8 2 (none) 3 n 76 [some (.inr (.inr (8, 0, 0))), none] [] I P O D n Q := fun _ b => ih b E
  simp only [f_X8_stepOn_76] at h
  refine h_aload_n dX8_stepOn_76 rfl ?_
  refine h_aload_n dX8_stepOn_77 rfl ?_
  refine g_X8_163  dX8_stepOn_78 ?_
  obtain ⟨y1, hh1, h⟩ := obd_some h
  refine h_cVi [.inl (I 8 0 0 15)] (m_X8_byteAt  hh1) cw_X8_166 dX8_stepOn_81 rfl ok_8 (by decide) rfl (Or.inr rfl) rfl ?_
  obtain ⟨y2, hh2, h⟩ := obd_some h
  refine h_cSi [.inl y1] (m_X8_isLetter  hh2) cs_X8_176 dX8_stepOn_84 rfl (by decide) rfl (Or.inr rfl) rfl ?_
  refine h_if_eq (tgt := 103) dX8_stepOn_87 (by decide) (fun q1 => ?_) (fun q1 => ?_)
  · rw [if_pos q1] at h
    refine h_aload_n dX8_stepOn_103 rfl ?_
    refine h_iconst (1 : Int32) dX8_stepOn_104 k_iconst_1 ?_
    obtain ⟨I1', e1, h⟩ := bnd_some h
    refine p_X8_173  dX8_stepOn_105 ?_
    refine h_nmI e1 ?_
    refine h_goto (tgt := 212) dX8_stepOn_108 (by decide) ?_
    refine h_aload_n dX8_stepOn_212 rfl ?_
    refine h_aload_n dX8_stepOn_213 rfl ?_
    refine g_X8_163  dX8_stepOn_214 ?_
    obtain ⟨I2', e2, h⟩ := bnd_some h
    refine p_X8_196  dX8_stepOn_217 ?_
    refine h_nmI e2 ?_
    cases h
    exact h_vret dX8_stepOn_220 rfl E
  · rw [if_neg q1] at h
    refine h_aload_n dX8_stepOn_90 rfl ?_
    refine h_dup dX8_stepOn_91 (fun _ => rfl) ?_
    refine g_X8_163  dX8_stepOn_92 ?_
    refine h_iconst (1 : Int32) dX8_stepOn_95 k_iconst_1 ?_
    refine h_iadd dX8_stepOn_96 ?_
    obtain ⟨I3', e3, h⟩ := bnd_some h
    refine p_X8_163  dX8_stepOn_97 ?_
    refine h_nmI e3 ?_
    refine h_goto (tgt := 76) dX8_stepOn_100 (by decide) ?_
    exact (H76 _ h)
def f_X8_stepOn_0   : Nat → Mem → Option (Mem)
  | 0, _ => none
  | fu + 1, I =>
    (f_X8_byteAt I (I 8 0 0 15)).bind fun y1 =>
    if y1 = (32 : Int32) then (bnd (upd4 I 8 0 0 15 ((I 8 0 0 15) + (1 : Int32))) fun I1' =>
    (f_X8_stepOn_0 fu) I1') else ((f_X8_byteAt I (I 8 0 0 15)).bind fun y2 =>
    if y2 = (10 : Int32) then (bnd (upd4 I 8 0 0 15 ((I 8 0 0 15) + (1 : Int32))) fun I11' =>
    (f_X8_stepOn_0 fu) I11') else (bnd (upd4 I 8 0 0 19 (I 8 0 0 15)) fun I2' =>
    (f_X8_byteAt I2' (I2' 8 0 0 15)).bind fun y3 =>
    if y3 = (-1 : Int32) then (bnd (upd4 I2' 8 0 0 17 (0 : Int32)) fun I9' =>
    bnd (upd4 I9' 8 0 0 20 (I9' 8 0 0 15)) fun I10' =>
    some I10') else ((f_X8_isLetter I2' y3).bind fun y4 =>
    if y4 = 0 then ((f_X8_isDigit I2' y3).bind fun y5 =>
    if y5 = 0 then (bnd (upd4 I2' 8 0 0 15 ((I2' 8 0 0 15) + (1 : Int32))) fun I3' =>
    (f_X8_isMark I3' y3).bind fun y6 =>
    if y6 = 0 then (bnd (upd4 I3' 8 0 0 17 (4 : Int32)) fun I4' =>
    bnd (upd4 I4' 8 0 0 20 (I4' 8 0 0 15)) fun I5' =>
    some I5') else (bnd (upd4 I3' 8 0 0 17 (3 : Int32)) fun I6' =>
    bnd (upd4 I6' 8 0 0 20 (I6' 8 0 0 15)) fun I7' =>
    some I7')) else (bnd (upd4 I2' 8 0 0 18 (0 : Int32)) fun I8' =>
    f_X8_stepOn_123 FU I8')) else (f_X8_stepOn_76 FU I2'))))
theorem b_X8_stepOn_0 (X : CX) (Q : State → Prop) {P : PMem} {O : Nat → Int64} {D : Bool} {n : Nat} {r : (Mem)}  : ∀ (fu : Nat) {I : Mem}, f_X8_stepOn_0 fu I = some r → EndR X cX8_stepOn RX8 2 (none) 3 n none r P O D Q → Here X cX8_stepOn RX8 2 (none) 3 n 0 [some (.inr (.inr (8, 0, 0))), none] [] I P O D n Q := by
  intro fu
  induction fu with
  | zero => intro I h E; cases h
  | succ fu ih =>
  intro I h E
  have H0 : ∀ (I : Mem), f_X8_stepOn_0 fu I = some r → Here X cX8_stepOn RX8 2 (none) 3 n 0 [some (.inr (.inr (8, 0, 0))), none] [] I P O D n Q := fun _ b => ih b E
  simp only [f_X8_stepOn_0] at h
  refine h_aload_n dX8_stepOn_0 rfl ?_
  refine h_aload_n dX8_stepOn_1 rfl ?_
  refine g_X8_163  dX8_stepOn_2 ?_
  obtain ⟨y1, hh1, h⟩ := obd_some h
  refine h_cVi [.inl (I 8 0 0 15)] (m_X8_byteAt  hh1) cw_X8_166 dX8_stepOn_5 rfl ok_8 (by decide) rfl (Or.inr rfl) rfl ?_
  refine h_bipush (32 : Int32) dX8_stepOn_8 k_bipush_32 ?_
  refine h_icmp_eq (tgt := 26) dX8_stepOn_10 (by decide) (fun q1 => ?_) (fun q1 => ?_)
  · rw [if_pos q1] at h
    refine h_aload_n dX8_stepOn_26 rfl ?_
    refine h_dup dX8_stepOn_27 (fun _ => rfl) ?_
    refine g_X8_163  dX8_stepOn_28 ?_
    refine h_iconst (1 : Int32) dX8_stepOn_31 k_iconst_1 ?_
    refine h_iadd dX8_stepOn_32 ?_
    obtain ⟨I1', e1, h⟩ := bnd_some h
    refine p_X8_163  dX8_stepOn_33 ?_
    refine h_nmI e1 ?_
    refine h_goto (tgt := 0) dX8_stepOn_36 (by decide) ?_
    exact (H0 _ h)
  · rw [if_neg q1] at h
    refine h_aload_n dX8_stepOn_13 rfl ?_
    refine h_aload_n dX8_stepOn_14 rfl ?_
    refine g_X8_163  dX8_stepOn_15 ?_
    obtain ⟨y2, hh2, h⟩ := obd_some h
    refine h_cVi [.inl (I 8 0 0 15)] (m_X8_byteAt  hh2) cw_X8_166 dX8_stepOn_18 rfl ok_8 (by decide) rfl (Or.inr rfl) rfl ?_
    refine h_bipush (10 : Int32) dX8_stepOn_21 k_bipush_10 ?_
    refine h_icmp_ne (tgt := 39) dX8_stepOn_23 (by decide) (fun q2 => ?_) (fun q2 => ?_)
    · rw [if_neg q2] at h
      refine h_aload_n dX8_stepOn_39 rfl ?_
      refine h_aload_n dX8_stepOn_40 rfl ?_
      refine g_X8_163  dX8_stepOn_41 ?_
      obtain ⟨I2', e2, h⟩ := bnd_some h
      refine p_X8_170  dX8_stepOn_44 ?_
      refine h_nmI e2 ?_
      refine h_aload_n dX8_stepOn_47 rfl ?_
      refine h_aload_n dX8_stepOn_48 rfl ?_
      refine g_X8_163  dX8_stepOn_49 ?_
      obtain ⟨y3, hh3, h⟩ := obd_some h
      refine h_cVi [.inl (I2' 8 0 0 15)] (m_X8_byteAt  hh3) cw_X8_166 dX8_stepOn_52 rfl ok_8 (by decide) rfl (Or.inr rfl) rfl ?_
      refine h_istore_n dX8_stepOn_55 (by decide) rfl ?_
      refine h_iload_n dX8_stepOn_56 rfl ?_
      refine h_iconst (-1 : Int32) dX8_stepOn_57 k_iconst_m1 ?_
      refine h_icmp_ne (tgt := 69) dX8_stepOn_58 (by decide) (fun q3 => ?_) (fun q3 => ?_)
      · rw [if_neg q3] at h
        refine h_iload_n dX8_stepOn_69 rfl ?_
        obtain ⟨y4, hh4, h⟩ := obd_some h
        refine h_cSi [.inl y3] (m_X8_isLetter  hh4) cs_X8_176 dX8_stepOn_70 rfl (by decide) rfl (Or.inr rfl) rfl ?_
        refine h_if_eq (tgt := 111) dX8_stepOn_73 (by decide) (fun q4 => ?_) (fun q4 => ?_)
        · rw [if_pos q4] at h
          refine h_iload_n dX8_stepOn_111 rfl ?_
          obtain ⟨y5, hh5, h⟩ := obd_some h
          refine h_cSi [.inl y3] (m_X8_isDigit  hh5) cs_X8_180 dX8_stepOn_112 rfl (by decide) rfl (Or.inr rfl) rfl ?_
          refine h_if_eq (tgt := 186) dX8_stepOn_115 (by decide) (fun q5 => ?_) (fun q5 => ?_)
          · rw [if_pos q5] at h
            refine h_aload_n dX8_stepOn_186 rfl ?_
            refine h_dup dX8_stepOn_187 (fun _ => rfl) ?_
            refine g_X8_163  dX8_stepOn_188 ?_
            refine h_iconst (1 : Int32) dX8_stepOn_191 k_iconst_1 ?_
            refine h_iadd dX8_stepOn_192 ?_
            obtain ⟨I3', e3, h⟩ := bnd_some h
            refine p_X8_163  dX8_stepOn_193 ?_
            refine h_nmI e3 ?_
            refine h_aload_n dX8_stepOn_196 rfl ?_
            refine h_iload_n dX8_stepOn_197 rfl ?_
            obtain ⟨y6, hh6, h⟩ := obd_some h
            refine h_cSi [.inl y3] (m_X8_isMark  hh6) cs_X8_193 dX8_stepOn_198 rfl (by decide) rfl (Or.inr rfl) rfl ?_
            refine h_if_eq (tgt := 208) dX8_stepOn_201 (by decide) (fun q6 => ?_) (fun q6 => ?_)
            · rw [if_pos q6] at h
              refine h_iconst (4 : Int32) dX8_stepOn_208 k_iconst_4 ?_
              obtain ⟨I4', e4, h⟩ := bnd_some h
              refine p_X8_173  dX8_stepOn_209 ?_
              refine h_nmI e4 ?_
              refine h_aload_n dX8_stepOn_212 rfl ?_
              refine h_aload_n dX8_stepOn_213 rfl ?_
              refine g_X8_163  dX8_stepOn_214 ?_
              obtain ⟨I5', e5, h⟩ := bnd_some h
              refine p_X8_196  dX8_stepOn_217 ?_
              refine h_nmI e5 ?_
              cases h
              exact h_vret dX8_stepOn_220 rfl E
            · rw [if_neg q6] at h
              refine h_iconst (3 : Int32) dX8_stepOn_204 k_iconst_3 ?_
              refine h_goto (tgt := 209) dX8_stepOn_205 (by decide) ?_
              obtain ⟨I6', e6, h⟩ := bnd_some h
              refine p_X8_173  dX8_stepOn_209 ?_
              refine h_nmI e6 ?_
              refine h_aload_n dX8_stepOn_212 rfl ?_
              refine h_aload_n dX8_stepOn_213 rfl ?_
              refine g_X8_163  dX8_stepOn_214 ?_
              obtain ⟨I7', e7, h⟩ := bnd_some h
              refine p_X8_196  dX8_stepOn_217 ?_
              refine h_nmI e7 ?_
              cases h
              exact h_vret dX8_stepOn_220 rfl E
          · rw [if_neg q5] at h
            refine h_aload_n dX8_stepOn_118 rfl ?_
            refine h_iconst (0 : Int32) dX8_stepOn_119 k_iconst_0 ?_
            obtain ⟨I8', e8, h⟩ := bnd_some h
            refine p_X8_183  dX8_stepOn_120 ?_
            refine h_nmI e8 ?_
            exact h_mask [true, false] (b_X8_stepOn_123 X Q FU  h E)
        · rw [if_neg q4] at h
          exact h_mask [true, false] (b_X8_stepOn_76 X Q FU  h E)
      · rw [if_pos q3] at h
        refine h_aload_n dX8_stepOn_61 rfl ?_
        refine h_iconst (0 : Int32) dX8_stepOn_62 k_iconst_0 ?_
        obtain ⟨I9', e9, h⟩ := bnd_some h
        refine p_X8_173  dX8_stepOn_63 ?_
        refine h_nmI e9 ?_
        refine h_goto (tgt := 212) dX8_stepOn_66 (by decide) ?_
        refine h_aload_n dX8_stepOn_212 rfl ?_
        refine h_aload_n dX8_stepOn_213 rfl ?_
        refine g_X8_163  dX8_stepOn_214 ?_
        obtain ⟨I10', e10, h⟩ := bnd_some h
        refine p_X8_196  dX8_stepOn_217 ?_
        refine h_nmI e10 ?_
        cases h
        exact h_vret dX8_stepOn_220 rfl E
    · rw [if_pos q2] at h
      refine h_aload_n dX8_stepOn_26 rfl ?_
      refine h_dup dX8_stepOn_27 (fun _ => rfl) ?_
      refine g_X8_163  dX8_stepOn_28 ?_
      refine h_iconst (1 : Int32) dX8_stepOn_31 k_iconst_1 ?_
      refine h_iadd dX8_stepOn_32 ?_
      obtain ⟨I11', e11, h⟩ := bnd_some h
      refine p_X8_163  dX8_stepOn_33 ?_
      refine h_nmI e11 ?_
      refine h_goto (tgt := 0) dX8_stepOn_36 (by decide) ?_
      exact (H0 _ h)
def f_X8_stepOn (I : Mem) : Option (Mem) := f_X8_stepOn_0  FU I
theorem b_X8_stepOn (X : CX) (Q : State → Prop) {I : Mem} {P : PMem} {O : Nat → Int64} {D : Bool} {n : Nat}  {r : (Mem)}  (h : f_X8_stepOn I = some r) (E : EndR X cX8_stepOn RX8 2 (none) 3 n none r P O D Q) : Here X cX8_stepOn RX8 2 (none) 3 n 0 [some (.inr (.inr (8, 0, 0))), none] [] I P O D n Q := h_mask [true, false] (b_X8_stepOn_0 X Q  FU h E)
theorem m_X8_stepOn {I : Mem} {P : PMem} {O : Nat → Int64} {D : Bool} {n : Nat}  {r : (Mem)}  (h : f_X8_stepOn I = some r) : MethR yX8_stepOn cX8_stepOn 2 (none) 3 [.inr (.inr (8, 0, 0))] I P O D n none r P O D n := meth_R (Nat.le_refl _) (by decide) rfl (Nat.le_of_ble_eq_true rfl) rfl (fun X Q E => b_X8_stepOn X Q  h E)
def f_X8_wrong   (I : Mem) (v1 : Int32) : Option (Mem) :=
  if (I 8 0 0 21) = 0 then (bnd (upd4 I 8 0 0 21 v1) fun I1' =>
  bnd (upd4 I1' 8 0 0 22 (I1' 8 0 0 19)) fun I2' =>
  some I2') else (some I)
theorem b_X8_wrong (X : CX) (Q : State → Prop) {I : Mem} {P : PMem} {O : Nat → Int64} {D : Bool} {n : Nat} {v1 : Int32} {r : (Mem)}  (h : f_X8_wrong I v1 = some r) (E : EndR X cX8_wrong RX8 2 (none) 2 n none r P O D Q) : Here X cX8_wrong RX8 2 (none) 2 n 0 [some (.inr (.inr (8, 0, 0))), some (.inl v1)] [] I P O D n Q := by
  unfold f_X8_wrong at h
  refine h_aload_n dX8_wrong_0 rfl ?_
  refine g_X8_199  dX8_wrong_1 ?_
  refine h_if_eq (tgt := 8) dX8_wrong_4 (by decide) (fun q1 => ?_) (fun q1 => ?_)
  · rw [if_pos q1] at h
    refine h_aload_n dX8_wrong_8 rfl ?_
    refine h_iload_n dX8_wrong_9 rfl ?_
    obtain ⟨I1', e1, h⟩ := bnd_some h
    refine p_X8_199  dX8_wrong_10 ?_
    refine h_nmI e1 ?_
    refine h_aload_n dX8_wrong_13 rfl ?_
    refine h_aload_n dX8_wrong_14 rfl ?_
    refine g_X8_170  dX8_wrong_15 ?_
    obtain ⟨I2', e2, h⟩ := bnd_some h
    refine p_X8_202  dX8_wrong_18 ?_
    refine h_nmI e2 ?_
    cases h
    exact h_vret dX8_wrong_21 rfl E
  · rw [if_neg q1] at h
    cases h
    exact h_vret dX8_wrong_7 rfl E
theorem m_X8_wrong {I : Mem} {P : PMem} {O : Nat → Int64} {D : Bool} {n : Nat} {v1 : Int32} {r : (Mem)}  (h : f_X8_wrong I v1 = some r) : MethR yX8_wrong cX8_wrong 2 (none) 2 [.inr (.inr (8, 0, 0)), .inl v1] I P O D n none r P O D n := meth_R (Nat.le_refl _) (by decide) rfl (Nat.le_of_ble_eq_true rfl) rfl (fun X Q E => b_X8_wrong X Q  h E)
def f_X8_is_39  (I : Mem) (z1 : Nat) : Nat → Int32 → Int32 → Option (Int32)
  | 0, _, _ => none
  | fu + 1, v2, v3 =>
    if v2 = 0 then (gd (v2 == 0 || v2 == 1) <|
    some v2) else (if (slen z1) ≤ v3 then (gd (v2 == 0 || v2 == 1) <|
    some v2) else (gd (inb v3 (strL.getD z1 0)) <|
    gd (inb ((I 8 0 0 19) + v3) 600) <|
    if (schr z1 v3.toNatClampNeg) = (I 60 0 0 (((I 8 0 0 19) + v3).toNatClampNeg)) then ((f_X8_is_39 I z1 fu) (1 : Int32) (v3 + (1 : Int32))) else ((f_X8_is_39 I z1 fu) (0 : Int32) (v3 + (1 : Int32)))))
theorem b_X8_is_39 (X : CX) (Q : State → Prop) {I : Mem} {P : PMem} {O : Nat → Int64} {D : Bool} {n : Nat} {z1 : Nat} {r : (Int32)}  (hz1 : z1 < nStr) : ∀ (fu : Nat) {v2 : Int32} {v3 : Int32}, f_X8_is_39 I z1 fu v2 v3 = some r → EndR X cX8_is RX8 4 (some .boolean) 9 n (some (.inl r)) I P O D Q → Here X cX8_is RX8 4 (some .boolean) 9 n 39 [some (.inr (.inr (8, 0, 0))), some (.inr (.inr (90, z1, 0))), some (.inl v2), some (.inl v3)] [] I P O D n Q := by
  intro fu
  induction fu with
  | zero => intro v2 v3 h E; cases h
  | succ fu ih =>
  intro v2 v3 h E
  have H39 : ∀ (v2 : Int32) (v3 : Int32), f_X8_is_39 I z1 fu v2 v3 = some r → Here X cX8_is RX8 4 (some .boolean) 9 n 39 [some (.inr (.inr (8, 0, 0))), some (.inr (.inr (90, z1, 0))), some (.inl v2), some (.inl v3)] [] I P O D n Q := fun _ _ b => ih b E
  simp only [f_X8_is_39] at h
  refine h_iload_n dX8_is_39 rfl ?_
  refine h_if_eq (tgt := 82) dX8_is_40 (by decide) (fun q1 => ?_) (fun q1 => ?_)
  · rw [if_pos q1] at h
    refine h_iload_n dX8_is_82 rfl ?_
    obtain ⟨g1, h⟩ := gd_some h
    cases h
    exact h_zret dX8_is_83 rfl g1 E
  · rw [if_neg q1] at h
    refine h_iload_n dX8_is_43 rfl ?_
    refine h_aload_n dX8_is_44 rfl ?_
    refine h_slen (by assumption) cz_X8_205 dX8_is_45 (by decide) rfl ?_
    refine h_icmp_ge (tgt := 82) dX8_is_48 (by decide) (fun q2 => ?_) (fun q2 => ?_)
    · rw [if_pos q2] at h
      refine h_iload_n dX8_is_82 rfl ?_
      obtain ⟨g2, h⟩ := gd_some h
      cases h
      exact h_zret dX8_is_83 rfl g2 E
    · rw [if_neg q2] at h
      refine h_aload_n dX8_is_51 rfl ?_
      refine h_iload_n dX8_is_52 rfl ?_
      obtain ⟨g3, h⟩ := gd_some h
      refine h_schr (by assumption) cz_X8_209 dX8_is_53 g3 (by decide) rfl ?_
      refine h_aload_n dX8_is_56 rfl ?_
      refine g_X8_63  dX8_is_57 ?_
      refine h_aload_n dX8_is_60 rfl ?_
      refine g_X8_170  dX8_is_61 ?_
      refine h_iload_n dX8_is_64 rfl ?_
      refine h_iadd dX8_is_65 ?_
      obtain ⟨g4, h⟩ := gd_some h
      refine al_60  (((I 8 0 0 19) + v3).toNatClampNeg) rfl dX8_is_66 g4 ?_
      refine h_icmp_ne (tgt := 74) dX8_is_67 (by decide) (fun q3 => ?_) (fun q3 => ?_)
      · rw [if_neg q3] at h
        refine h_iconst (0 : Int32) dX8_is_74 k_iconst_0 ?_
        refine h_istore_n dX8_is_75 (by decide) rfl ?_
        refine h_iinc (1 : Int32) dX8_is_76 rfl k_iinc_1 (by decide) rfl ?_
        refine h_goto (tgt := 39) dX8_is_79 (by decide) ?_
        exact (H39 _ _ h)
      · rw [if_pos q3] at h
        refine h_iconst (1 : Int32) dX8_is_70 k_iconst_1 ?_
        refine h_goto (tgt := 75) dX8_is_71 (by decide) ?_
        refine h_istore_n dX8_is_75 (by decide) rfl ?_
        refine h_iinc (1 : Int32) dX8_is_76 rfl k_iinc_1 (by decide) rfl ?_
        refine h_goto (tgt := 39) dX8_is_79 (by decide) ?_
        exact (H39 _ _ h)
def f_X8_is_36  (I : Mem) (z1 : Nat) (s0 : Int32) : Option (Int32) :=
  f_X8_is_39 I z1 FU s0 (0 : Int32)
theorem b_X8_is_36 (X : CX) (Q : State → Prop) {I : Mem} {P : PMem} {O : Nat → Int64} {D : Bool} {n : Nat} {z1 : Nat} {s0 : Int32} {r : (Int32)}  (hz1 : z1 < nStr) (h : f_X8_is_36 I z1 s0 = some r) (E : EndR X cX8_is RX8 4 (some .boolean) 9 n (some (.inl r)) I P O D Q) : Here X cX8_is RX8 4 (some .boolean) 9 n 36 [some (.inr (.inr (8, 0, 0))), some (.inr (.inr (90, z1, 0))), none, none] [.inl s0] I P O D n Q := by
  unfold f_X8_is_36 at h
  refine h_istore_n dX8_is_36 (by decide) rfl ?_
  refine h_iconst (0 : Int32) dX8_is_37 k_iconst_0 ?_
  refine h_istore_n dX8_is_38 (by decide) rfl ?_
  exact (b_X8_is_39 X Q hz1 FU  h E)
def f_X8_is_35  (I : Mem) (z1 : Nat)  : Option (Int32) :=
  f_X8_is_36 I z1 (0 : Int32)
theorem b_X8_is_35 (X : CX) (Q : State → Prop) {I : Mem} {P : PMem} {O : Nat → Int64} {D : Bool} {n : Nat} {z1 : Nat} {r : (Int32)}  (hz1 : z1 < nStr) (h : f_X8_is_35 I z1 = some r) (E : EndR X cX8_is RX8 4 (some .boolean) 9 n (some (.inl r)) I P O D Q) : Here X cX8_is RX8 4 (some .boolean) 9 n 35 [some (.inr (.inr (8, 0, 0))), some (.inr (.inr (90, z1, 0))), none, none] [] I P O D n Q := by
  unfold f_X8_is_35 at h
  refine h_iconst (0 : Int32) dX8_is_35 k_iconst_0 ?_
  exact (b_X8_is_36 X Q hz1  h E)
def f_X8_is  (I : Mem) (z1 : Nat)  : Option (Int32) :=
  if (I 8 0 0 21) = 0 then (if (I 8 0 0 17) = (1 : Int32) then (if (slen z1) = ((I 8 0 0 20) - (I 8 0 0 19)) then (f_X8_is_36 I z1 (1 : Int32)) else (f_X8_is_35 I z1 )) else (f_X8_is_35 I z1 )) else (f_X8_is_35 I z1 )
theorem b_X8_is (X : CX) (Q : State → Prop) {I : Mem} {P : PMem} {O : Nat → Int64} {D : Bool} {n : Nat} {z1 : Nat} {r : (Int32)}  (hz1 : z1 < nStr) (h : f_X8_is I z1 = some r) (E : EndR X cX8_is RX8 4 (some .boolean) 9 n (some (.inl r)) I P O D Q) : Here X cX8_is RX8 4 (some .boolean) 9 n 0 [some (.inr (.inr (8, 0, 0))), some (.inr (.inr (90, z1, 0))), none, none] [] I P O D n Q := by
  unfold f_X8_is at h
  refine h_aload_n dX8_is_0 rfl ?_
  refine g_X8_199  dX8_is_1 ?_
  refine h_if_ne (tgt := 35) dX8_is_4 (by decide) (fun q1 => ?_) (fun q1 => ?_)
  · rw [if_neg q1] at h
    exact (b_X8_is_35 X Q hz1  h E)
  · rw [if_pos q1] at h
    refine h_aload_n dX8_is_7 rfl ?_
    refine g_X8_173  dX8_is_8 ?_
    refine h_iconst (1 : Int32) dX8_is_11 k_iconst_1 ?_
    refine h_icmp_ne (tgt := 35) dX8_is_12 (by decide) (fun q2 => ?_) (fun q2 => ?_)
    · rw [if_neg q2] at h
      exact (b_X8_is_35 X Q hz1  h E)
    · rw [if_pos q2] at h
      refine h_aload_n dX8_is_15 rfl ?_
      refine h_slen (by assumption) cz_X8_205 dX8_is_16 (by decide) rfl ?_
      refine h_aload_n dX8_is_19 rfl ?_
      refine g_X8_196  dX8_is_20 ?_
      refine h_aload_n dX8_is_23 rfl ?_
      refine g_X8_170  dX8_is_24 ?_
      refine h_isub dX8_is_27 ?_
      refine h_icmp_ne (tgt := 35) dX8_is_28 (by decide) (fun q3 => ?_) (fun q3 => ?_)
      · rw [if_neg q3] at h
        exact (b_X8_is_35 X Q hz1  h E)
      · rw [if_pos q3] at h
        refine h_iconst (1 : Int32) dX8_is_31 k_iconst_1 ?_
        refine h_goto (tgt := 36) dX8_is_32 (by decide) ?_
        exact (b_X8_is_36 X Q hz1  h E)
theorem m_X8_is {I : Mem} {P : PMem} {O : Nat → Int64} {D : Bool} {n : Nat} {z1 : Nat} {r : (Int32)} (hz1 : z1 < nStr) (h : f_X8_is I z1 = some r) : MethR yX8_is cX8_is 4 (some .boolean) 9 [.inr (.inr (8, 0, 0)), .inr (.inr (90, z1, 0))] I P O D n (some (.inl r)) I P O D n := meth_R (Nat.le_refl _) (by decide) rfl (Nat.le_of_ble_eq_true rfl) rfl (fun X Q E => b_X8_is X Q hz1 h E)
def f_X8_which_2  (I : Mem) (c1 : Nat) : Nat → Int32 → Option (Int32)
  | 0, _ => none
  | fu + 1, v2 =>
    if (Int32.ofNat (cL c1 0)) ≤ v2 then (some (-1 : Int32)) else (gd (inb v2 (cL c1 0)) <|
    (f_X8_is I (cS c1 + v2.toNatClampNeg)).bind fun y1 =>
    if y1 = 0 then ((f_X8_which_2 I c1 fu) (v2 + (1 : Int32))) else (some v2))
theorem b_X8_which_2 (X : CX) (Q : State → Prop) {I : Mem} {P : PMem} {O : Nat → Int64} {D : Bool} {n : Nat} {c1 : Nat} {r : (Int32)}  (hc1 : saOK c1) : ∀ (fu : Nat) {v2 : Int32}, f_X8_which_2 I c1 fu v2 = some r → EndR X cX8_which RX8 3 (some .int) 10 n (some (.inl r)) I P O D Q → Here X cX8_which RX8 3 (some .int) 10 n 2 [some (.inr (.inr (8, 0, 0))), some (.inr (.inr (c1, 0, 0))), some (.inl v2)] [] I P O D n Q := by
  intro fu
  induction fu with
  | zero => intro v2 h E; cases h
  | succ fu ih =>
  intro v2 h E
  have H2 : ∀ (v2 : Int32), f_X8_which_2 I c1 fu v2 = some r → Here X cX8_which RX8 3 (some .int) 10 n 2 [some (.inr (.inr (8, 0, 0))), some (.inr (.inr (c1, 0, 0))), some (.inl v2)] [] I P O D n Q := fun _ b => ih b E
  simp only [f_X8_which_2] at h
  refine h_iload_n dX8_which_2 rfl ?_
  refine h_aload_n dX8_which_3 rfl ?_
  refine h_salen hc1 dX8_which_4 ?_
  refine h_icmp_ge (tgt := 26) dX8_which_5 (by decide) (fun q1 => ?_) (fun q1 => ?_)
  · rw [if_pos q1] at h
    refine h_iconst (-1 : Int32) dX8_which_26 k_iconst_m1 ?_
    cases h
    exact h_iret dX8_which_27 rfl E
  · rw [if_neg q1] at h
    refine h_aload_n dX8_which_8 rfl ?_
    refine h_aload_n dX8_which_9 rfl ?_
    refine h_iload_n dX8_which_10 rfl ?_
    obtain ⟨g1, h⟩ := gd_some h
    refine h_sald hc1 dX8_which_11 g1 ?_
    have w1 := sa_lt hc1 g1
    obtain ⟨y1, hh1, h⟩ := obd_some h
    refine h_cVi [.inr (.inr (90, (cS c1 + v2.toNatClampNeg), 0))] (m_X8_is (by assumption) hh1) cw_X8_213 dX8_which_12 rfl ok_8 (by decide) rfl (Or.inr rfl) rfl ?_
    refine h_if_eq (tgt := 20) dX8_which_15 (by decide) (fun q2 => ?_) (fun q2 => ?_)
    · rw [if_pos q2] at h
      refine h_iinc (1 : Int32) dX8_which_20 rfl k_iinc_1 (by decide) rfl ?_
      refine h_goto (tgt := 2) dX8_which_23 (by decide) ?_
      exact (H2 _ h)
    · rw [if_neg q2] at h
      refine h_iload_n dX8_which_18 rfl ?_
      cases h
      exact h_iret dX8_which_19 rfl E
def f_X8_which  (I : Mem) (c1 : Nat)  : Option (Int32) :=
  f_X8_which_2 I c1 FU (0 : Int32)
theorem b_X8_which (X : CX) (Q : State → Prop) {I : Mem} {P : PMem} {O : Nat → Int64} {D : Bool} {n : Nat} {c1 : Nat} {r : (Int32)}  (hc1 : saOK c1) (h : f_X8_which I c1 = some r) (E : EndR X cX8_which RX8 3 (some .int) 10 n (some (.inl r)) I P O D Q) : Here X cX8_which RX8 3 (some .int) 10 n 0 [some (.inr (.inr (8, 0, 0))), some (.inr (.inr (c1, 0, 0))), none] [] I P O D n Q := by
  unfold f_X8_which at h
  refine h_iconst (0 : Int32) dX8_which_0 k_iconst_0 ?_
  refine h_istore_n dX8_which_1 (by decide) rfl ?_
  exact (b_X8_which_2 X Q hc1 FU  h E)
theorem m_X8_which {I : Mem} {P : PMem} {O : Nat → Int64} {D : Bool} {n : Nat} {c1 : Nat} {r : (Int32)} (hc1 : saOK c1) (h : f_X8_which I c1 = some r) : MethR yX8_which cX8_which 3 (some .int) 10 [.inr (.inr (8, 0, 0)), .inr (.inr (c1, 0, 0))] I P O D n (some (.inl r)) I P O D n := meth_R (Nat.le_refl _) (by decide) rfl (Nat.le_of_ble_eq_true rfl) rfl (fun X Q E => b_X8_which X Q hc1 h E)
def f_X8_isMarked  (I : Mem) (v1 : Int32) : Option (Int32) :=
  if (I 8 0 0 21) = 0 then (if (I 8 0 0 17) = (3 : Int32) then (gd (inb (I 8 0 0 19) 600) <|
  if (I 60 0 0 ((I 8 0 0 19).toNatClampNeg)) = v1 then (some (1 : Int32)) else (some (0 : Int32))) else (some (0 : Int32))) else (some (0 : Int32))
theorem b_X8_isMarked (X : CX) (Q : State → Prop) {I : Mem} {P : PMem} {O : Nat → Int64} {D : Bool} {n : Nat} {v1 : Int32} {r : (Int32)}  (h : f_X8_isMarked I v1 = some r) (E : EndR X cX8_isMarked RX8 2 (some .boolean) 2 n (some (.inl r)) I P O D Q) : Here X cX8_isMarked RX8 2 (some .boolean) 2 n 0 [some (.inr (.inr (8, 0, 0))), some (.inl v1)] [] I P O D n Q := by
  unfold f_X8_isMarked at h
  refine h_aload_n dX8_isMarked_0 rfl ?_
  refine g_X8_199  dX8_isMarked_1 ?_
  refine h_if_ne (tgt := 32) dX8_isMarked_4 (by decide) (fun q1 => ?_) (fun q1 => ?_)
  · rw [if_neg q1] at h
    refine h_iconst (0 : Int32) dX8_isMarked_32 k_iconst_0 ?_
    cases h
    exact h_zret dX8_isMarked_33 rfl rfl E
  · rw [if_pos q1] at h
    refine h_aload_n dX8_isMarked_7 rfl ?_
    refine g_X8_173  dX8_isMarked_8 ?_
    refine h_iconst (3 : Int32) dX8_isMarked_11 k_iconst_3 ?_
    refine h_icmp_ne (tgt := 32) dX8_isMarked_12 (by decide) (fun q2 => ?_) (fun q2 => ?_)
    · rw [if_neg q2] at h
      refine h_iconst (0 : Int32) dX8_isMarked_32 k_iconst_0 ?_
      cases h
      exact h_zret dX8_isMarked_33 rfl rfl E
    · rw [if_pos q2] at h
      refine h_aload_n dX8_isMarked_15 rfl ?_
      refine g_X8_63  dX8_isMarked_16 ?_
      refine h_aload_n dX8_isMarked_19 rfl ?_
      refine g_X8_170  dX8_isMarked_20 ?_
      obtain ⟨g1, h⟩ := gd_some h
      refine al_60  ((I 8 0 0 19).toNatClampNeg) rfl dX8_isMarked_23 g1 ?_
      refine h_iload_n dX8_isMarked_24 rfl ?_
      refine h_icmp_ne (tgt := 32) dX8_isMarked_25 (by decide) (fun q3 => ?_) (fun q3 => ?_)
      · rw [if_neg q3] at h
        refine h_iconst (0 : Int32) dX8_isMarked_32 k_iconst_0 ?_
        cases h
        exact h_zret dX8_isMarked_33 rfl rfl E
      · rw [if_pos q3] at h
        refine h_iconst (1 : Int32) dX8_isMarked_28 k_iconst_1 ?_
        refine h_goto (tgt := 33) dX8_isMarked_29 (by decide) ?_
        cases h
        exact h_zret dX8_isMarked_33 rfl rfl E
theorem m_X8_isMarked {I : Mem} {P : PMem} {O : Nat → Int64} {D : Bool} {n : Nat} {v1 : Int32} {r : (Int32)}  (h : f_X8_isMarked I v1 = some r) : MethR yX8_isMarked cX8_isMarked 2 (some .boolean) 2 [.inr (.inr (8, 0, 0)), .inl v1] I P O D n (some (.inl r)) I P O D n := meth_R (Nat.le_refl _) (by decide) rfl (Nat.le_of_ble_eq_true rfl) rfl (fun X Q E => b_X8_isMarked X Q  h E)
def f_X8_mark_20   (I : Mem) : Option (Mem) :=
  if (I 8 0 0 21) = 0 then ((f_X8_stepOn I).bind fun y1 =>
  some y1) else (some I)
theorem b_X8_mark_20 (X : CX) (Q : State → Prop) {I : Mem} {P : PMem} {O : Nat → Int64} {D : Bool} {n : Nat} {r : (Mem)}  (h : f_X8_mark_20 I = some r) (E : EndR X cX8_mark RX8 2 (none) 4 n none r P O D Q) : Here X cX8_mark RX8 2 (none) 4 n 20 [some (.inr (.inr (8, 0, 0))), none] [] I P O D n Q := by
  unfold f_X8_mark_20 at h
  refine h_aload_n dX8_mark_20 rfl ?_
  refine g_X8_199  dX8_mark_21 ?_
  refine h_if_ne (tgt := 31) dX8_mark_24 (by decide) (fun q1 => ?_) (fun q1 => ?_)
  · rw [if_neg q1] at h
    cases h
    exact h_vret dX8_mark_31 rfl E
  · rw [if_pos q1] at h
    refine h_aload_n dX8_mark_27 rfl ?_
    obtain ⟨y1, hh1, h⟩ := obd_some h
    refine h_cVv [] (m_X8_stepOn  hh1) cw_X8_224 dX8_mark_28 rfl ok_8 (by decide) rfl (Or.inr rfl) rfl ?_
    cases h
    exact h_vret dX8_mark_31 rfl E
def f_X8_mark   (I : Mem) (v1 : Int32) : Option (Mem) :=
  if (I 8 0 0 21) = 0 then ((f_X8_isMarked I v1).bind fun y1 =>
  if y1 = 0 then ((f_X8_wrong I (1 : Int32)).bind fun y2 =>
  f_X8_mark_20 y2) else (f_X8_mark_20 I)) else (f_X8_mark_20 I)
theorem b_X8_mark (X : CX) (Q : State → Prop) {I : Mem} {P : PMem} {O : Nat → Int64} {D : Bool} {n : Nat} {v1 : Int32} {r : (Mem)}  (h : f_X8_mark I v1 = some r) (E : EndR X cX8_mark RX8 2 (none) 4 n none r P O D Q) : Here X cX8_mark RX8 2 (none) 4 n 0 [some (.inr (.inr (8, 0, 0))), some (.inl v1)] [] I P O D n Q := by
  unfold f_X8_mark at h
  refine h_aload_n dX8_mark_0 rfl ?_
  refine g_X8_199  dX8_mark_1 ?_
  refine h_if_ne (tgt := 20) dX8_mark_4 (by decide) (fun q1 => ?_) (fun q1 => ?_)
  · rw [if_neg q1] at h
    exact h_mask [true, false] (b_X8_mark_20 X Q  h E)
  · rw [if_pos q1] at h
    refine h_aload_n dX8_mark_7 rfl ?_
    refine h_iload_n dX8_mark_8 rfl ?_
    obtain ⟨y1, hh1, h⟩ := obd_some h
    refine h_cVi [.inl v1] (m_X8_isMarked  hh1) cw_X8_217 dX8_mark_9 rfl ok_8 (by decide) rfl (Or.inr rfl) rfl ?_
    refine h_if_ne (tgt := 20) dX8_mark_12 (by decide) (fun q2 => ?_) (fun q2 => ?_)
    · rw [if_neg q2] at h
      exact h_mask [true, false] (b_X8_mark_20 X Q  h E)
    · rw [if_pos q2] at h
      refine h_aload_n dX8_mark_15 rfl ?_
      refine h_iconst (1 : Int32) dX8_mark_16 k_iconst_1 ?_
      obtain ⟨y2, hh2, h⟩ := obd_some h
      refine h_cVv [.inl (1 : Int32)] (m_X8_wrong  hh2) cw_X8_220 dX8_mark_17 rfl ok_8 (by decide) rfl (Or.inr rfl) rfl ?_
      exact h_mask [true, false] (b_X8_mark_20 X Q  h E)
theorem m_X8_mark {I : Mem} {P : PMem} {O : Nat → Int64} {D : Bool} {n : Nat} {v1 : Int32} {r : (Mem)}  (h : f_X8_mark I v1 = some r) : MethR yX8_mark cX8_mark 2 (none) 4 [.inr (.inr (8, 0, 0)), .inl v1] I P O D n none r P O D n := meth_R (Nat.le_refl _) (by decide) rfl (Nat.le_of_ble_eq_true rfl) rfl (fun X Q E => b_X8_mark X Q  h E)
def f_X8_numberNow_59   (I : Mem) : Option (Int32 × Mem) :=
  if (I 8 0 0 21) = 0 then (some ((I 8 0 0 18), I)) else (some ((0 : Int32), I))
theorem b_X8_numberNow_59 (X : CX) (Q : State → Prop) {I : Mem} {P : PMem} {O : Nat → Int64} {D : Bool} {n : Nat} {r : (Int32 × Mem)}  (h : f_X8_numberNow_59 I = some r) (E : EndR X cX8_numberNow RX8 3 (some .int) 3 n (some (.inl r.1)) r.2 P O D Q) : Here X cX8_numberNow RX8 3 (some .int) 3 n 59 [some (.inr (.inr (8, 0, 0))), none, none] [] I P O D n Q := by
  unfold f_X8_numberNow_59 at h
  refine h_aload_n dX8_numberNow_59 rfl ?_
  refine g_X8_199  dX8_numberNow_60 ?_
  refine h_if_ne (tgt := 73) dX8_numberNow_63 (by decide) (fun q1 => ?_) (fun q1 => ?_)
  · rw [if_neg q1] at h
    refine h_iconst (0 : Int32) dX8_numberNow_73 k_iconst_0 ?_
    cases h
    exact h_iret dX8_numberNow_74 rfl E
  · rw [if_pos q1] at h
    refine h_aload_n dX8_numberNow_66 rfl ?_
    refine g_X8_183  dX8_numberNow_67 ?_
    refine h_goto (tgt := 74) dX8_numberNow_70 (by decide) ?_
    cases h
    exact h_iret dX8_numberNow_74 rfl E
def f_X8_numberNow_54   (I : Mem) : Option (Int32 × Mem) :=
  (f_X8_wrong I (2 : Int32)).bind fun y1 =>
  f_X8_numberNow_59 y1
theorem b_X8_numberNow_54 (X : CX) (Q : State → Prop) {I : Mem} {P : PMem} {O : Nat → Int64} {D : Bool} {n : Nat} {r : (Int32 × Mem)}  (h : f_X8_numberNow_54 I = some r) (E : EndR X cX8_numberNow RX8 3 (some .int) 3 n (some (.inl r.1)) r.2 P O D Q) : Here X cX8_numberNow RX8 3 (some .int) 3 n 54 [some (.inr (.inr (8, 0, 0))), none, none] [] I P O D n Q := by
  unfold f_X8_numberNow_54 at h
  refine h_aload_n dX8_numberNow_54 rfl ?_
  refine h_iconst (2 : Int32) dX8_numberNow_55 k_iconst_2 ?_
  obtain ⟨y1, hh1, h⟩ := obd_some h
  refine h_cVv [.inl (2 : Int32)] (m_X8_wrong  hh1) cw_X8_220 dX8_numberNow_56 rfl ok_8 (by decide) rfl (Or.inr rfl) rfl ?_
  exact (b_X8_numberNow_59 X Q  h E)
def f_X8_numberNow   (I : Mem) (v1 : Int32) (v2 : Int32) : Option (Int32 × Mem) :=
  if (I 8 0 0 21) = 0 then (if (I 8 0 0 17) = (2 : Int32) then (if (4 : Int32) < ((I 8 0 0 20) - (I 8 0 0 19)) then (f_X8_numberNow_54 I) else (if (I 8 0 0 18) < v1 then (f_X8_numberNow_54 I) else (if (I 8 0 0 18) ≤ v2 then (f_X8_numberNow_59 I) else (f_X8_numberNow_54 I)))) else ((f_X8_wrong I (1 : Int32)).bind fun y1 =>
  f_X8_numberNow_59 y1)) else (some ((0 : Int32), I))
theorem b_X8_numberNow (X : CX) (Q : State → Prop) {I : Mem} {P : PMem} {O : Nat → Int64} {D : Bool} {n : Nat} {v1 : Int32} {v2 : Int32} {r : (Int32 × Mem)}  (h : f_X8_numberNow I v1 v2 = some r) (E : EndR X cX8_numberNow RX8 3 (some .int) 3 n (some (.inl r.1)) r.2 P O D Q) : Here X cX8_numberNow RX8 3 (some .int) 3 n 0 [some (.inr (.inr (8, 0, 0))), some (.inl v1), some (.inl v2)] [] I P O D n Q := by
  unfold f_X8_numberNow at h
  refine h_aload_n dX8_numberNow_0 rfl ?_
  refine g_X8_199  dX8_numberNow_1 ?_
  refine h_if_eq (tgt := 9) dX8_numberNow_4 (by decide) (fun q1 => ?_) (fun q1 => ?_)
  · rw [if_pos q1] at h
    refine h_aload_n dX8_numberNow_9 rfl ?_
    refine g_X8_173  dX8_numberNow_10 ?_
    refine h_iconst (2 : Int32) dX8_numberNow_13 k_iconst_2 ?_
    refine h_icmp_eq (tgt := 25) dX8_numberNow_14 (by decide) (fun q2 => ?_) (fun q2 => ?_)
    · rw [if_pos q2] at h
      refine h_aload_n dX8_numberNow_25 rfl ?_
      refine g_X8_196  dX8_numberNow_26 ?_
      refine h_aload_n dX8_numberNow_29 rfl ?_
      refine g_X8_170  dX8_numberNow_30 ?_
      refine h_isub dX8_numberNow_33 ?_
      refine h_iconst (4 : Int32) dX8_numberNow_34 k_iconst_4 ?_
      refine h_icmp_gt (tgt := 54) dX8_numberNow_35 (by decide) (fun q3 => ?_) (fun q3 => ?_)
      · rw [if_pos q3] at h
        exact h_mask [true, false, false] (b_X8_numberNow_54 X Q  h E)
      · rw [if_neg q3] at h
        refine h_aload_n dX8_numberNow_38 rfl ?_
        refine g_X8_183  dX8_numberNow_39 ?_
        refine h_iload_n dX8_numberNow_42 rfl ?_
        refine h_icmp_lt (tgt := 54) dX8_numberNow_43 (by decide) (fun q4 => ?_) (fun q4 => ?_)
        · rw [if_pos q4] at h
          exact h_mask [true, false, false] (b_X8_numberNow_54 X Q  h E)
        · rw [if_neg q4] at h
          refine h_aload_n dX8_numberNow_46 rfl ?_
          refine g_X8_183  dX8_numberNow_47 ?_
          refine h_iload_n dX8_numberNow_50 rfl ?_
          refine h_icmp_le (tgt := 59) dX8_numberNow_51 (by decide) (fun q5 => ?_) (fun q5 => ?_)
          · rw [if_pos q5] at h
            exact h_mask [true, false, false] (b_X8_numberNow_59 X Q  h E)
          · rw [if_neg q5] at h
            exact h_mask [true, false, false] (b_X8_numberNow_54 X Q  h E)
    · rw [if_neg q2] at h
      refine h_aload_n dX8_numberNow_17 rfl ?_
      refine h_iconst (1 : Int32) dX8_numberNow_18 k_iconst_1 ?_
      obtain ⟨y1, hh1, h⟩ := obd_some h
      refine h_cVv [.inl (1 : Int32)] (m_X8_wrong  hh1) cw_X8_220 dX8_numberNow_19 rfl ok_8 (by decide) rfl (Or.inr rfl) rfl ?_
      refine h_goto (tgt := 59) dX8_numberNow_22 (by decide) ?_
      exact h_mask [true, false, false] (b_X8_numberNow_59 X Q  h E)
  · rw [if_neg q1] at h
    refine h_iconst (0 : Int32) dX8_numberNow_7 k_iconst_0 ?_
    cases h
    exact h_iret dX8_numberNow_8 rfl E
theorem m_X8_numberNow {I : Mem} {P : PMem} {O : Nat → Int64} {D : Bool} {n : Nat} {v1 : Int32} {v2 : Int32} {r : (Int32 × Mem)}  (h : f_X8_numberNow I v1 v2 = some r) : MethR yX8_numberNow cX8_numberNow 3 (some .int) 3 [.inr (.inr (8, 0, 0)), .inl v1, .inl v2] I P O D n (some (.inl r.1)) r.2 P O D n := meth_R (Nat.le_refl _) (by decide) rfl (Nat.le_of_ble_eq_true rfl) rfl (fun X Q E => b_X8_numberNow X Q  h E)
def f_X8_readNumber   (I : Mem) (v1 : Int32) (v2 : Int32) : Option (Int32 × Mem) :=
  (f_X8_numberNow I v1 v2).bind fun y1 =>
  if (y1.2 8 0 0 21) = 0 then ((f_X8_stepOn y1.2).bind fun y2 =>
  some (y1.1, y2)) else (some (y1.1, y1.2))
theorem b_X8_readNumber (X : CX) (Q : State → Prop) {I : Mem} {P : PMem} {O : Nat → Int64} {D : Bool} {n : Nat} {v1 : Int32} {v2 : Int32} {r : (Int32 × Mem)}  (h : f_X8_readNumber I v1 v2 = some r) (E : EndR X cX8_readNumber RX8 4 (some .int) 4 n (some (.inl r.1)) r.2 P O D Q) : Here X cX8_readNumber RX8 4 (some .int) 4 n 0 [some (.inr (.inr (8, 0, 0))), some (.inl v1), some (.inl v2), none] [] I P O D n Q := by
  unfold f_X8_readNumber at h
  refine h_aload_n dX8_readNumber_0 rfl ?_
  refine h_iload_n dX8_readNumber_1 rfl ?_
  refine h_iload_n dX8_readNumber_2 rfl ?_
  obtain ⟨y1, hh1, h⟩ := obd_some h
  refine h_cVi [.inl v1, .inl v2] (m_X8_numberNow  hh1) cw_X8_227 dX8_readNumber_3 rfl ok_8 (by decide) rfl (Or.inr rfl) rfl ?_
  refine h_istore_n dX8_readNumber_6 (by decide) rfl ?_
  refine h_aload_n dX8_readNumber_7 rfl ?_
  refine g_X8_199  dX8_readNumber_8 ?_
  refine h_if_ne (tgt := 18) dX8_readNumber_11 (by decide) (fun q1 => ?_) (fun q1 => ?_)
  · rw [if_neg q1] at h
    refine h_iload_n dX8_readNumber_18 rfl ?_
    cases h
    exact h_iret dX8_readNumber_19 rfl E
  · rw [if_pos q1] at h
    refine h_aload_n dX8_readNumber_14 rfl ?_
    obtain ⟨y2, hh2, h⟩ := obd_some h
    refine h_cVv [] (m_X8_stepOn  hh2) cw_X8_224 dX8_readNumber_15 rfl ok_8 (by decide) rfl (Or.inr rfl) rfl ?_
    refine h_iload_n dX8_readNumber_18 rfl ?_
    cases h
    exact h_iret dX8_readNumber_19 rfl E
theorem m_X8_readNumber {I : Mem} {P : PMem} {O : Nat → Int64} {D : Bool} {n : Nat} {v1 : Int32} {v2 : Int32} {r : (Int32 × Mem)}  (h : f_X8_readNumber I v1 v2 = some r) : MethR yX8_readNumber cX8_readNumber 4 (some .int) 4 [.inr (.inr (8, 0, 0)), .inl v1, .inl v2] I P O D n (some (.inl r.1)) r.2 P O D n := meth_R (Nat.le_refl _) (by decide) rfl (Nat.le_of_ble_eq_true rfl) rfl (fun X Q E => b_X8_readNumber X Q  h E)
def f_X8_townNow_32   (I : Mem) (v1 : Int32) : Option (Int32 × Mem) :=
  if (I 8 0 0 21) = 0 then (some (v1, I)) else (some ((0 : Int32), I))
theorem b_X8_townNow_32 (X : CX) (Q : State → Prop) {I : Mem} {P : PMem} {O : Nat → Int64} {D : Bool} {n : Nat} {v1 : Int32} {r : (Int32 × Mem)}  (h : f_X8_townNow_32 I v1 = some r) (E : EndR X cX8_townNow RX8 2 (some .int) 4 n (some (.inl r.1)) r.2 P O D Q) : Here X cX8_townNow RX8 2 (some .int) 4 n 32 [some (.inr (.inr (8, 0, 0))), some (.inl v1)] [] I P O D n Q := by
  unfold f_X8_townNow_32 at h
  refine h_aload_n dX8_townNow_32 rfl ?_
  refine g_X8_199  dX8_townNow_33 ?_
  refine h_if_ne (tgt := 43) dX8_townNow_36 (by decide) (fun q1 => ?_) (fun q1 => ?_)
  · rw [if_neg q1] at h
    refine h_iconst (0 : Int32) dX8_townNow_43 k_iconst_0 ?_
    cases h
    exact h_iret dX8_townNow_44 rfl E
  · rw [if_pos q1] at h
    refine h_iload_n dX8_townNow_39 rfl ?_
    refine h_goto (tgt := 44) dX8_townNow_40 (by decide) ?_
    cases h
    exact h_iret dX8_townNow_44 rfl E
def f_X8_townNow   (I : Mem) : Option (Int32 × Mem) :=
  (f_X8_numberNow I (0 : Int32) (9999 : Int32)).bind fun y1 =>
  if (y1.2 8 0 0 21) = 0 then (if y1.1 < (y1.2 50 0 0 7) then (f_X8_townNow_32 y1.2 y1.1) else ((f_X8_wrong y1.2 (3 : Int32)).bind fun y2 =>
  f_X8_townNow_32 y2 y1.1)) else (f_X8_townNow_32 y1.2 y1.1)
theorem b_X8_townNow (X : CX) (Q : State → Prop) {I : Mem} {P : PMem} {O : Nat → Int64} {D : Bool} {n : Nat} {r : (Int32 × Mem)}  (h : f_X8_townNow I = some r) (E : EndR X cX8_townNow RX8 2 (some .int) 4 n (some (.inl r.1)) r.2 P O D Q) : Here X cX8_townNow RX8 2 (some .int) 4 n 0 [some (.inr (.inr (8, 0, 0))), none] [] I P O D n Q := by
  unfold f_X8_townNow at h
  refine h_aload_n dX8_townNow_0 rfl ?_
  refine h_iconst (0 : Int32) dX8_townNow_1 k_iconst_0 ?_
  refine h_sipush (9999 : Int32) dX8_townNow_2 k_sipush_9999 ?_
  obtain ⟨y1, hh1, h⟩ := obd_some h
  refine h_cVi [.inl (0 : Int32), .inl (9999 : Int32)] (m_X8_numberNow  hh1) cw_X8_227 dX8_townNow_5 rfl ok_8 (by decide) rfl (Or.inr rfl) rfl ?_
  refine h_istore_n dX8_townNow_8 (by decide) rfl ?_
  refine h_aload_n dX8_townNow_9 rfl ?_
  refine g_X8_199  dX8_townNow_10 ?_
  refine h_if_ne (tgt := 32) dX8_townNow_13 (by decide) (fun q1 => ?_) (fun q1 => ?_)
  · rw [if_neg q1] at h
    exact (b_X8_townNow_32 X Q  h E)
  · rw [if_pos q1] at h
    refine h_iload_n dX8_townNow_16 rfl ?_
    refine h_aload_n dX8_townNow_17 rfl ?_
    refine g_X8_34  dX8_townNow_18 ?_
    refine h_bipush (7 : Int32) dX8_townNow_21 k_bipush_7 ?_
    refine al_50  7 cl_7 dX8_townNow_23 rfl ?_
    refine h_icmp_lt (tgt := 32) dX8_townNow_24 (by decide) (fun q2 => ?_) (fun q2 => ?_)
    · rw [if_pos q2] at h
      exact (b_X8_townNow_32 X Q  h E)
    · rw [if_neg q2] at h
      refine h_aload_n dX8_townNow_27 rfl ?_
      refine h_iconst (3 : Int32) dX8_townNow_28 k_iconst_3 ?_
      obtain ⟨y2, hh2, h⟩ := obd_some h
      refine h_cVv [.inl (3 : Int32)] (m_X8_wrong  hh2) cw_X8_220 dX8_townNow_29 rfl ok_8 (by decide) rfl (Or.inr rfl) rfl ?_
      exact (b_X8_townNow_32 X Q  h E)
theorem m_X8_townNow {I : Mem} {P : PMem} {O : Nat → Int64} {D : Bool} {n : Nat}  {r : (Int32 × Mem)}  (h : f_X8_townNow I = some r) : MethR yX8_townNow cX8_townNow 2 (some .int) 4 [.inr (.inr (8, 0, 0))] I P O D n (some (.inl r.1)) r.2 P O D n := meth_R (Nat.le_refl _) (by decide) rfl (Nat.le_of_ble_eq_true rfl) rfl (fun X Q E => b_X8_townNow X Q  h E)
def f_X8_lay   (I : Mem) (v1 : Int32) : Option (Mem) :=
  if (I 8 0 0 21) = 0 then (gd (inb ((600 : Int32) + (I 50 0 0 13)) 1200) <|
  bnd (upd4 I 58 0 0 (((600 : Int32) + (I 50 0 0 13)).toNatClampNeg) v1) fun I1' =>
  bnd (upd4 I1' 50 0 0 13 ((I1' 50 0 0 13) + (1 : Int32))) fun I2' =>
  some I2') else (some I)
theorem b_X8_lay (X : CX) (Q : State → Prop) {I : Mem} {P : PMem} {O : Nat → Int64} {D : Bool} {n : Nat} {v1 : Int32} {r : (Mem)}  (h : f_X8_lay I v1 = some r) (E : EndR X cX8_lay RX8 2 (none) 2 n none r P O D Q) : Here X cX8_lay RX8 2 (none) 2 n 0 [some (.inr (.inr (8, 0, 0))), some (.inl v1)] [] I P O D n Q := by
  unfold f_X8_lay at h
  refine h_aload_n dX8_lay_0 rfl ?_
  refine g_X8_199  dX8_lay_1 ?_
  refine h_if_eq (tgt := 8) dX8_lay_4 (by decide) (fun q1 => ?_) (fun q1 => ?_)
  · rw [if_pos q1] at h
    refine h_aload_n dX8_lay_8 rfl ?_
    refine g_X8_57  dX8_lay_9 ?_
    refine h_sipush (600 : Int32) dX8_lay_12 k_sipush_600 ?_
    refine h_aload_n dX8_lay_15 rfl ?_
    refine g_X8_34  dX8_lay_16 ?_
    refine h_bipush (13 : Int32) dX8_lay_19 k_bipush_13 ?_
    refine al_50  13 cl_13 dX8_lay_21 rfl ?_
    refine h_iadd dX8_lay_22 ?_
    refine h_iload_n dX8_lay_23 rfl ?_
    obtain ⟨g1, h⟩ := gd_some h
    obtain ⟨I1', e1, h⟩ := bnd_some h
    refine as_58  (((600 : Int32) + (I 50 0 0 13)).toNatClampNeg) rfl dX8_lay_24 g1 ?_
    refine h_nmI e1 ?_
    refine h_aload_n dX8_lay_25 rfl ?_
    refine g_X8_34  dX8_lay_26 ?_
    refine h_bipush (13 : Int32) dX8_lay_29 k_bipush_13 ?_
    refine h_dup2 dX8_lay_31 (fun _ => rfl) (fun _ => rfl) ?_
    refine al_50  13 cl_13 dX8_lay_32 rfl ?_
    refine h_iconst (1 : Int32) dX8_lay_33 k_iconst_1 ?_
    refine h_iadd dX8_lay_34 ?_
    obtain ⟨I2', e2, h⟩ := bnd_some h
    refine as_50  13 cl_13 dX8_lay_35 rfl ?_
    refine h_nmI e2 ?_
    cases h
    exact h_vret dX8_lay_36 rfl E
  · rw [if_neg q1] at h
    cases h
    exact h_vret dX8_lay_7 rfl E
theorem m_X8_lay {I : Mem} {P : PMem} {O : Nat → Int64} {D : Bool} {n : Nat} {v1 : Int32} {r : (Mem)}  (h : f_X8_lay I v1 = some r) : MethR yX8_lay cX8_lay 2 (none) 2 [.inr (.inr (8, 0, 0)), .inl v1] I P O D n none r P O D n := meth_R (Nat.le_refl _) (by decide) rfl (Nat.le_of_ble_eq_true rfl) rfl (fun X Q E => b_X8_lay X Q  h E)
