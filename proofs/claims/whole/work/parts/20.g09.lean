theorem dX7_burn_0 : decode cX7_burn 0 = .ok (.iload_n 1, 1) := by decide +kernel
theorem dX7_burn_1 : decode cX7_burn 1 = .ok (.iconst 1, 1) := by decide +kernel
theorem dX7_burn_2 : decode cX7_burn 2 = .ok (.invokestatic 152, 3) := by decide +kernel
theorem dX7_burn_5 : decode cX7_burn 5 = .ok (.aload_n 0, 1) := by decide +kernel
theorem dX7_burn_6 : decode cX7_burn 6 = .ok (.getfield 51, 3) := by decide +kernel
theorem dX7_burn_9 : decode cX7_burn 9 = .ok (.aload_n 0, 1) := by decide +kernel
theorem dX7_burn_10 : decode cX7_burn 10 = .ok (.getfield 16, 3) := by decide +kernel
theorem dX7_burn_13 : decode cX7_burn 13 = .ok (.aload_n 0, 1) := by decide +kernel
theorem dX7_burn_14 : decode cX7_burn 14 = .ok (.getfield 35, 3) := by decide +kernel
theorem dX7_burn_17 : decode cX7_burn 17 = .ok (.invokevirtual 247, 3) := by decide +kernel
theorem dX7_burn_20 : decode cX7_burn 20 = .ok (.aload_n 0, 1) := by decide +kernel
theorem dX7_burn_21 : decode cX7_burn 21 = .ok (.getfield 51, 3) := by decide +kernel
theorem dX7_burn_24 : decode cX7_burn 24 = .ok (.invokevirtual 250, 3) := by decide +kernel
theorem dX7_burn_27 : decode cX7_burn 27 = .ok (.iconst (-1), 1) := by decide +kernel
theorem dX7_burn_28 : decode cX7_burn 28 = .ok (.istore_n 2, 1) := by decide +kernel
theorem dX7_burn_29 : decode cX7_burn 29 = .ok (.iconst (-1), 1) := by decide +kernel
theorem dX7_burn_30 : decode cX7_burn 30 = .ok (.istore_n 3, 1) := by decide +kernel
theorem dX7_burn_31 : decode cX7_burn 31 = .ok (.iconst 0, 1) := by decide +kernel
theorem dX7_burn_32 : decode cX7_burn 32 = .ok (.istore 4, 2) := by decide +kernel
theorem dX7_burn_34 : decode cX7_burn 34 = .ok (.iload 4, 2) := by decide +kernel
theorem dX7_burn_36 : decode cX7_burn 36 = .ok (.aload_n 0, 1) := by decide +kernel
theorem dX7_burn_37 : decode cX7_burn 37 = .ok (.getfield 16, 3) := by decide +kernel
theorem dX7_burn_40 : decode cX7_burn 40 = .ok (.getfield 97, 3) := by decide +kernel
theorem dX7_burn_43 : decode cX7_burn 43 = .ok (.if_icmp .ge 74, 3) := by decide +kernel
theorem dX7_burn_46 : decode cX7_burn 46 = .ok (.aload_n 0, 1) := by decide +kernel
theorem dX7_burn_47 : decode cX7_burn 47 = .ok (.getfield 35, 3) := by decide +kernel
theorem dX7_burn_50 : decode cX7_burn 50 = .ok (.getfield 113, 3) := by decide +kernel
theorem dX7_burn_53 : decode cX7_burn 53 = .ok (.iload 4, 2) := by decide +kernel
theorem dX7_burn_55 : decode cX7_burn 55 = .ok (.iushr, 1) := by decide +kernel
theorem dX7_burn_56 : decode cX7_burn 56 = .ok (.iconst 1, 1) := by decide +kernel
theorem dX7_burn_57 : decode cX7_burn 57 = .ok (.iand, 1) := by decide +kernel
theorem dX7_burn_58 : decode cX7_burn 58 = .ok (.iconst 1, 1) := by decide +kernel
theorem dX7_burn_59 : decode cX7_burn 59 = .ok (.if_icmp .ne 52, 3) := by decide +kernel
theorem dX7_burn_62 : decode cX7_burn 62 = .ok (.aload_n 0, 1) := by decide +kernel
theorem dX7_burn_63 : decode cX7_burn 63 = .ok (.getfield 51, 3) := by decide +kernel
theorem dX7_burn_66 : decode cX7_burn 66 = .ok (.aload_n 0, 1) := by decide +kernel
theorem dX7_burn_67 : decode cX7_burn 67 = .ok (.getfield 35, 3) := by decide +kernel
theorem dX7_burn_70 : decode cX7_burn 70 = .ok (.getfield 113, 3) := by decide +kernel
theorem dX7_burn_73 : decode cX7_burn 73 = .ok (.iconst 1, 1) := by decide +kernel
theorem dX7_burn_74 : decode cX7_burn 74 = .ok (.iload 4, 2) := by decide +kernel
theorem dX7_burn_76 : decode cX7_burn 76 = .ok (.ishl, 1) := by decide +kernel
theorem dX7_burn_77 : decode cX7_burn 77 = .ok (.iconst (-1), 1) := by decide +kernel
theorem dX7_burn_78 : decode cX7_burn 78 = .ok (.ixor, 1) := by decide +kernel
theorem dX7_burn_79 : decode cX7_burn 79 = .ok (.iand, 1) := by decide +kernel
theorem dX7_burn_80 : decode cX7_burn 80 = .ok (.invokevirtual 253, 3) := by decide +kernel
theorem dX7_burn_83 : decode cX7_burn 83 = .ok (.aload_n 0, 1) := by decide +kernel
theorem dX7_burn_84 : decode cX7_burn 84 = .ok (.getfield 51, 3) := by decide +kernel
theorem dX7_burn_87 : decode cX7_burn 87 = .ok (.invokevirtual 256, 3) := by decide +kernel
theorem dX7_burn_90 : decode cX7_burn 90 = .ok (.aload_n 0, 1) := by decide +kernel
theorem dX7_burn_91 : decode cX7_burn 91 = .ok (.getfield 51, 3) := by decide +kernel
theorem dX7_burn_94 : decode cX7_burn 94 = .ok (.invokevirtual 135, 3) := by decide +kernel
theorem dX7_burn_97 : decode cX7_burn 97 = .ok (.istore 5, 2) := by decide +kernel
theorem dX7_burn_99 : decode cX7_burn 99 = .ok (.iload 5, 2) := by decide +kernel
theorem dX7_burn_101 : decode cX7_burn 101 = .ok (.iload_n 3, 1) := by decide +kernel
theorem dX7_burn_102 : decode cX7_burn 102 = .ok (.if_icmp .le 9, 3) := by decide +kernel
theorem dX7_burn_105 : decode cX7_burn 105 = .ok (.iload 5, 2) := by decide +kernel
theorem dX7_burn_107 : decode cX7_burn 107 = .ok (.istore_n 3, 1) := by decide +kernel
theorem dX7_burn_108 : decode cX7_burn 108 = .ok (.iload 4, 2) := by decide +kernel
theorem dX7_burn_110 : decode cX7_burn 110 = .ok (.istore_n 2, 1) := by decide +kernel
theorem dX7_burn_111 : decode cX7_burn 111 = .ok (.iinc 4 1, 3) := by decide +kernel
theorem dX7_burn_114 : decode cX7_burn 114 = .ok (.goto (-80), 3) := by decide +kernel
theorem dX7_burn_117 : decode cX7_burn 117 = .ok (.iload_n 1, 1) := by decide +kernel
theorem dX7_burn_118 : decode cX7_burn 118 = .ok (.ifCond .ne 7, 3) := by decide +kernel
theorem dX7_burn_121 : decode cX7_burn 121 = .ok (.iload_n 2, 1) := by decide +kernel
theorem dX7_burn_122 : decode cX7_burn 122 = .ok (.goto 4, 3) := by decide +kernel
theorem dX7_burn_125 : decode cX7_burn 125 = .ok (.iload_n 3, 1) := by decide +kernel
theorem dX7_burn_126 : decode cX7_burn 126 = .ok (.ireturn, 1) := by decide +kernel
theorem dX7_when_0 : decode cX7_when 0 = .ok (.aload_n 0, 1) := by decide +kernel
theorem dX7_when_1 : decode cX7_when 1 = .ok (.iload_n 1, 1) := by decide +kernel
theorem dX7_when_2 : decode cX7_when 2 = .ok (.invokevirtual 163, 3) := by decide +kernel
theorem dX7_when_5 : decode cX7_when 5 = .ok (.iload_n 2, 1) := by decide +kernel
theorem dX7_when_6 : decode cX7_when 6 = .ok (.iconst 1, 1) := by decide +kernel
theorem dX7_when_7 : decode cX7_when 7 = .ok (.invokestatic 152, 3) := by decide +kernel
theorem dX7_when_10 : decode cX7_when 10 = .ok (.aload_n 0, 1) := by decide +kernel
theorem dX7_when_11 : decode cX7_when 11 = .ok (.getfield 51, 3) := by decide +kernel
theorem dX7_when_14 : decode cX7_when 14 = .ok (.aload_n 0, 1) := by decide +kernel
theorem dX7_when_15 : decode cX7_when 15 = .ok (.getfield 16, 3) := by decide +kernel
theorem dX7_when_18 : decode cX7_when 18 = .ok (.aload_n 0, 1) := by decide +kernel
theorem dX7_when_19 : decode cX7_when 19 = .ok (.getfield 35, 3) := by decide +kernel
theorem dX7_when_22 : decode cX7_when 22 = .ok (.invokevirtual 247, 3) := by decide +kernel
theorem dX7_when_25 : decode cX7_when 25 = .ok (.iconst (-1), 1) := by decide +kernel
theorem dX7_when_26 : decode cX7_when 26 = .ok (.istore_n 3, 1) := by decide +kernel
theorem dX7_when_27 : decode cX7_when 27 = .ok (.iconst (-1), 1) := by decide +kernel
theorem dX7_when_28 : decode cX7_when 28 = .ok (.istore 4, 2) := by decide +kernel
theorem dX7_when_30 : decode cX7_when 30 = .ok (.iconst 0, 1) := by decide +kernel
theorem dX7_when_31 : decode cX7_when 31 = .ok (.istore 5, 2) := by decide +kernel
theorem dX7_when_33 : decode cX7_when 33 = .ok (.iload 5, 2) := by decide +kernel
theorem dX7_when_35 : decode cX7_when 35 = .ok (.bipush 60, 2) := by decide +kernel
theorem dX7_when_37 : decode cX7_when 37 = .ok (.if_icmp .gt 50, 3) := by decide +kernel
theorem dX7_when_40 : decode cX7_when 40 = .ok (.aload_n 0, 1) := by decide +kernel
theorem dX7_when_41 : decode cX7_when 41 = .ok (.getfield 51, 3) := by decide +kernel
theorem dX7_when_44 : decode cX7_when 44 = .ok (.iload_n 1, 1) := by decide +kernel
theorem dX7_when_45 : decode cX7_when 45 = .ok (.iload 5, 2) := by decide +kernel
theorem dX7_when_47 : decode cX7_when 47 = .ok (.iconst 0, 1) := by decide +kernel
theorem dX7_when_48 : decode cX7_when 48 = .ok (.invokevirtual 259, 3) := by decide +kernel
theorem dX7_when_51 : decode cX7_when 51 = .ok (.aload_n 0, 1) := by decide +kernel
theorem dX7_when_52 : decode cX7_when 52 = .ok (.getfield 51, 3) := by decide +kernel
theorem dX7_when_55 : decode cX7_when 55 = .ok (.invokevirtual 263, 3) := by decide +kernel
theorem dX7_when_58 : decode cX7_when 58 = .ok (.aload_n 0, 1) := by decide +kernel
theorem dX7_when_59 : decode cX7_when 59 = .ok (.getfield 51, 3) := by decide +kernel
theorem dX7_when_62 : decode cX7_when 62 = .ok (.invokevirtual 135, 3) := by decide +kernel
theorem dX7_when_65 : decode cX7_when 65 = .ok (.istore 6, 2) := by decide +kernel
theorem dX7_when_67 : decode cX7_when 67 = .ok (.iload 6, 2) := by decide +kernel
theorem dX7_when_69 : decode cX7_when 69 = .ok (.iload 4, 2) := by decide +kernel
theorem dX7_when_71 : decode cX7_when 71 = .ok (.if_icmp .le 10, 3) := by decide +kernel
theorem dX7_when_74 : decode cX7_when 74 = .ok (.iload 6, 2) := by decide +kernel
theorem dX7_when_76 : decode cX7_when 76 = .ok (.istore 4, 2) := by decide +kernel
theorem dX7_when_78 : decode cX7_when 78 = .ok (.iload 5, 2) := by decide +kernel
theorem dX7_when_80 : decode cX7_when 80 = .ok (.istore_n 3, 1) := by decide +kernel
theorem dX7_when_81 : decode cX7_when 81 = .ok (.iinc 5 1, 3) := by decide +kernel
theorem dX7_when_84 : decode cX7_when 84 = .ok (.goto (-51), 3) := by decide +kernel
theorem dX7_when_87 : decode cX7_when 87 = .ok (.iload_n 2, 1) := by decide +kernel
theorem dX7_when_88 : decode cX7_when 88 = .ok (.ifCond .ne 7, 3) := by decide +kernel
theorem dX7_when_91 : decode cX7_when 91 = .ok (.iload_n 3, 1) := by decide +kernel
theorem dX7_when_92 : decode cX7_when 92 = .ok (.goto 5, 3) := by decide +kernel
theorem dX7_when_95 : decode cX7_when 95 = .ok (.iload 4, 2) := by decide +kernel
theorem dX7_when_97 : decode cX7_when 97 = .ok (.ireturn, 1) := by decide +kernel
theorem dX7_round_0 : decode cX7_round 0 = .ok (.aload_n 0, 1) := by decide +kernel
theorem dX7_round_1 : decode cX7_round 1 = .ok (.iload_n 1, 1) := by decide +kernel
theorem dX7_round_2 : decode cX7_round 2 = .ok (.invokevirtual 163, 3) := by decide +kernel
theorem dX7_round_5 : decode cX7_round 5 = .ok (.aload_n 0, 1) := by decide +kernel
theorem dX7_round_6 : decode cX7_round 6 = .ok (.getfield 51, 3) := by decide +kernel
theorem dX7_round_9 : decode cX7_round 9 = .ok (.aload_n 0, 1) := by decide +kernel
theorem dX7_round_10 : decode cX7_round 10 = .ok (.getfield 16, 3) := by decide +kernel
theorem dX7_round_13 : decode cX7_round 13 = .ok (.aload_n 0, 1) := by decide +kernel
theorem dX7_round_14 : decode cX7_round 14 = .ok (.getfield 35, 3) := by decide +kernel
theorem dX7_round_17 : decode cX7_round 17 = .ok (.invokevirtual 247, 3) := by decide +kernel
theorem dX7_round_20 : decode cX7_round 20 = .ok (.aload_n 0, 1) := by decide +kernel
theorem dX7_round_21 : decode cX7_round 21 = .ok (.getfield 51, 3) := by decide +kernel
theorem dX7_round_24 : decode cX7_round 24 = .ok (.iload_n 1, 1) := by decide +kernel
theorem dX7_round_25 : decode cX7_round 25 = .ok (.aload_n 0, 1) := by decide +kernel
theorem dX7_round_26 : decode cX7_round 26 = .ok (.getfield 35, 3) := by decide +kernel
theorem dX7_round_29 : decode cX7_round 29 = .ok (.getfield 169, 3) := by decide +kernel
theorem dX7_round_32 : decode cX7_round 32 = .ok (.iload_n 1, 1) := by decide +kernel
theorem dX7_round_33 : decode cX7_round 33 = .ok (.iaload, 1) := by decide +kernel
theorem dX7_round_34 : decode cX7_round 34 = .ok (.iconst 1, 1) := by decide +kernel
theorem dX7_round_35 : decode cX7_round 35 = .ok (.invokevirtual 259, 3) := by decide +kernel
theorem dX7_round_38 : decode cX7_round 38 = .ok (.aload_n 0, 1) := by decide +kernel
theorem dX7_round_39 : decode cX7_round 39 = .ok (.getfield 51, 3) := by decide +kernel
theorem dX7_round_42 : decode cX7_round 42 = .ok (.invokevirtual 263, 3) := by decide +kernel
theorem dX7_round_45 : decode cX7_round 45 = .ok (.aload_n 0, 1) := by decide +kernel
theorem dX7_round_46 : decode cX7_round 46 = .ok (.getfield 51, 3) := by decide +kernel
theorem dX7_round_49 : decode cX7_round 49 = .ok (.invokevirtual 135, 3) := by decide +kernel
theorem dX7_round_52 : decode cX7_round 52 = .ok (.aload_n 0, 1) := by decide +kernel
theorem dX7_round_53 : decode cX7_round 53 = .ok (.invokevirtual 131, 3) := by decide +kernel
theorem dX7_round_56 : decode cX7_round 56 = .ok (.invokevirtual 135, 3) := by decide +kernel
theorem dX7_round_59 : decode cX7_round 59 = .ok (.isub, 1) := by decide +kernel
theorem dX7_round_60 : decode cX7_round 60 = .ok (.ireturn, 1) := by decide +kernel
theorem dX7_free_0 : decode cX7_free 0 = .ok (.aload_n 0, 1) := by decide +kernel
theorem dX7_free_1 : decode cX7_free 1 = .ok (.iload_n 1, 1) := by decide +kernel
theorem dX7_free_2 : decode cX7_free 2 = .ok (.invokevirtual 194, 3) := by decide +kernel
theorem dX7_free_5 : decode cX7_free 5 = .ok (.iload_n 2, 1) := by decide +kernel
theorem dX7_free_6 : decode cX7_free 6 = .ok (.iconst 1, 1) := by decide +kernel
theorem dX7_free_7 : decode cX7_free 7 = .ok (.invokestatic 152, 3) := by decide +kernel
theorem dX7_free_10 : decode cX7_free 10 = .ok (.aload_n 0, 1) := by decide +kernel
theorem dX7_free_11 : decode cX7_free 11 = .ok (.invokevirtual 131, 3) := by decide +kernel
theorem dX7_free_14 : decode cX7_free 14 = .ok (.astore_n 3, 1) := by decide +kernel
theorem dX7_free_15 : decode cX7_free 15 = .ok (.aload_n 3, 1) := by decide +kernel
theorem dX7_free_16 : decode cX7_free 16 = .ok (.getfield 220, 3) := by decide +kernel
theorem dX7_free_19 : decode cX7_free 19 = .ok (.iload_n 1, 1) := by decide +kernel
theorem dX7_free_20 : decode cX7_free 20 = .ok (.iaload, 1) := by decide +kernel
theorem dX7_free_21 : decode cX7_free 21 = .ok (.ifCond .ne 6, 3) := by decide +kernel
theorem dX7_free_24 : decode cX7_free 24 = .ok (.bipush (-2), 2) := by decide +kernel
theorem dX7_free_26 : decode cX7_free 26 = .ok (.ireturn, 1) := by decide +kernel
theorem dX7_free_27 : decode cX7_free 27 = .ok (.iconst 0, 1) := by decide +kernel
theorem dX7_free_28 : decode cX7_free 28 = .ok (.istore 4, 2) := by decide +kernel
theorem dX7_free_30 : decode cX7_free 30 = .ok (.iload 4, 2) := by decide +kernel
theorem dX7_free_32 : decode cX7_free 32 = .ok (.bipush 60, 2) := by decide +kernel
theorem dX7_free_34 : decode cX7_free 34 = .ok (.if_icmp .gt 63, 3) := by decide +kernel
theorem dX7_free_37 : decode cX7_free 37 = .ok (.iconst 0, 1) := by decide +kernel
theorem dX7_free_38 : decode cX7_free 38 = .ok (.istore 5, 2) := by decide +kernel
theorem dX7_free_40 : decode cX7_free 40 = .ok (.iload 5, 2) := by decide +kernel
theorem dX7_free_42 : decode cX7_free 42 = .ok (.aload_n 0, 1) := by decide +kernel
theorem dX7_free_43 : decode cX7_free 43 = .ok (.getfield 16, 3) := by decide +kernel
theorem dX7_free_46 : decode cX7_free 46 = .ok (.getfield 97, 3) := by decide +kernel
theorem dX7_free_49 : decode cX7_free 49 = .ok (.if_icmp .ge 42, 3) := by decide +kernel
theorem dX7_free_52 : decode cX7_free 52 = .ok (.aload_n 3, 1) := by decide +kernel
theorem dX7_free_53 : decode cX7_free 53 = .ok (.iload_n 1, 1) := by decide +kernel
theorem dX7_free_54 : decode cX7_free 54 = .ok (.aload_n 3, 1) := by decide +kernel
theorem dX7_free_55 : decode cX7_free 55 = .ok (.iload_n 1, 1) := by decide +kernel
theorem dX7_free_56 : decode cX7_free 56 = .ok (.iload 5, 2) := by decide +kernel
theorem dX7_free_58 : decode cX7_free 58 = .ok (.iload 4, 2) := by decide +kernel
theorem dX7_free_60 : decode cX7_free 60 = .ok (.invokevirtual 266, 3) := by decide +kernel
theorem dX7_free_63 : decode cX7_free 63 = .ok (.aload_n 3, 1) := by decide +kernel
theorem dX7_free_64 : decode cX7_free 64 = .ok (.getfield 270, 3) := by decide +kernel
theorem dX7_free_67 : decode cX7_free 67 = .ok (.invokevirtual 273, 3) := by decide +kernel
theorem dX7_free_70 : decode cX7_free 70 = .ok (.ifCond .ne 15, 3) := by decide +kernel
theorem dX7_free_73 : decode cX7_free 73 = .ok (.iload_n 2, 1) := by decide +kernel
theorem dX7_free_74 : decode cX7_free 74 = .ok (.ifCond .ne 8, 3) := by decide +kernel
theorem dX7_free_77 : decode cX7_free 77 = .ok (.iload 4, 2) := by decide +kernel
theorem dX7_free_79 : decode cX7_free 79 = .ok (.goto 5, 3) := by decide +kernel
theorem dX7_free_82 : decode cX7_free 82 = .ok (.iload 5, 2) := by decide +kernel
theorem dX7_free_84 : decode cX7_free 84 = .ok (.ireturn, 1) := by decide +kernel
theorem dX7_free_85 : decode cX7_free 85 = .ok (.iinc 5 1, 3) := by decide +kernel
theorem dX7_free_88 : decode cX7_free 88 = .ok (.goto (-48), 3) := by decide +kernel
theorem dX7_free_91 : decode cX7_free 91 = .ok (.iinc 4 1, 3) := by decide +kernel
theorem dX7_free_94 : decode cX7_free 94 = .ok (.goto (-64), 3) := by decide +kernel
theorem dX7_free_97 : decode cX7_free 97 = .ok (.iconst (-1), 1) := by decide +kernel
theorem dX7_free_98 : decode cX7_free 98 = .ok (.ireturn, 1) := by decide +kernel
theorem dJ6_bitCount_0f7a4_0 : decode cJ6_bitCount_0f7a4 0 = .ok (.iload_n 0, 1) := by decide +kernel
theorem dJ6_bitCount_0f7a4_1 : decode cJ6_bitCount_0f7a4 1 = .ok (.iload_n 0, 1) := by decide +kernel
theorem dJ6_bitCount_0f7a4_2 : decode cJ6_bitCount_0f7a4 2 = .ok (.iconst 1, 1) := by decide +kernel
theorem dJ6_bitCount_0f7a4_3 : decode cJ6_bitCount_0f7a4 3 = .ok (.iushr, 1) := by decide +kernel
theorem dJ6_bitCount_0f7a4_4 : decode cJ6_bitCount_0f7a4 4 = .ok (.ldc_w 265, 3) := by decide +kernel
theorem dJ6_bitCount_0f7a4_7 : decode cJ6_bitCount_0f7a4 7 = .ok (.iand, 1) := by decide +kernel
theorem dJ6_bitCount_0f7a4_8 : decode cJ6_bitCount_0f7a4 8 = .ok (.isub, 1) := by decide +kernel
theorem dJ6_bitCount_0f7a4_9 : decode cJ6_bitCount_0f7a4 9 = .ok (.istore_n 0, 1) := by decide +kernel
theorem dJ6_bitCount_0f7a4_10 : decode cJ6_bitCount_0f7a4 10 = .ok (.iload_n 0, 1) := by decide +kernel
theorem dJ6_bitCount_0f7a4_11 : decode cJ6_bitCount_0f7a4 11 = .ok (.ldc_w 266, 3) := by decide +kernel
theorem dJ6_bitCount_0f7a4_14 : decode cJ6_bitCount_0f7a4 14 = .ok (.iand, 1) := by decide +kernel
theorem dJ6_bitCount_0f7a4_15 : decode cJ6_bitCount_0f7a4 15 = .ok (.iload_n 0, 1) := by decide +kernel
theorem dJ6_bitCount_0f7a4_16 : decode cJ6_bitCount_0f7a4 16 = .ok (.iconst 2, 1) := by decide +kernel
theorem dJ6_bitCount_0f7a4_17 : decode cJ6_bitCount_0f7a4 17 = .ok (.iushr, 1) := by decide +kernel
theorem dJ6_bitCount_0f7a4_18 : decode cJ6_bitCount_0f7a4 18 = .ok (.ldc_w 266, 3) := by decide +kernel
theorem dJ6_bitCount_0f7a4_21 : decode cJ6_bitCount_0f7a4 21 = .ok (.iand, 1) := by decide +kernel
theorem dJ6_bitCount_0f7a4_22 : decode cJ6_bitCount_0f7a4 22 = .ok (.iadd, 1) := by decide +kernel
theorem dJ6_bitCount_0f7a4_23 : decode cJ6_bitCount_0f7a4 23 = .ok (.istore_n 0, 1) := by decide +kernel
theorem dJ6_bitCount_0f7a4_24 : decode cJ6_bitCount_0f7a4 24 = .ok (.iload_n 0, 1) := by decide +kernel
theorem dJ6_bitCount_0f7a4_25 : decode cJ6_bitCount_0f7a4 25 = .ok (.iload_n 0, 1) := by decide +kernel
theorem dJ6_bitCount_0f7a4_26 : decode cJ6_bitCount_0f7a4 26 = .ok (.iconst 4, 1) := by decide +kernel
theorem dJ6_bitCount_0f7a4_27 : decode cJ6_bitCount_0f7a4 27 = .ok (.iushr, 1) := by decide +kernel
theorem dJ6_bitCount_0f7a4_28 : decode cJ6_bitCount_0f7a4 28 = .ok (.iadd, 1) := by decide +kernel
theorem dJ6_bitCount_0f7a4_29 : decode cJ6_bitCount_0f7a4 29 = .ok (.ldc_w 267, 3) := by decide +kernel
theorem dJ6_bitCount_0f7a4_32 : decode cJ6_bitCount_0f7a4 32 = .ok (.iand, 1) := by decide +kernel
theorem dJ6_bitCount_0f7a4_33 : decode cJ6_bitCount_0f7a4 33 = .ok (.istore_n 0, 1) := by decide +kernel
theorem dJ6_bitCount_0f7a4_34 : decode cJ6_bitCount_0f7a4 34 = .ok (.iload_n 0, 1) := by decide +kernel
theorem dJ6_bitCount_0f7a4_35 : decode cJ6_bitCount_0f7a4 35 = .ok (.iload_n 0, 1) := by decide +kernel
theorem dJ6_bitCount_0f7a4_36 : decode cJ6_bitCount_0f7a4 36 = .ok (.bipush 8, 2) := by decide +kernel
theorem dJ6_bitCount_0f7a4_38 : decode cJ6_bitCount_0f7a4 38 = .ok (.iushr, 1) := by decide +kernel
theorem dJ6_bitCount_0f7a4_39 : decode cJ6_bitCount_0f7a4 39 = .ok (.iadd, 1) := by decide +kernel
theorem dJ6_bitCount_0f7a4_40 : decode cJ6_bitCount_0f7a4 40 = .ok (.istore_n 0, 1) := by decide +kernel
theorem dJ6_bitCount_0f7a4_41 : decode cJ6_bitCount_0f7a4 41 = .ok (.iload_n 0, 1) := by decide +kernel
theorem dJ6_bitCount_0f7a4_42 : decode cJ6_bitCount_0f7a4 42 = .ok (.iload_n 0, 1) := by decide +kernel
theorem dJ6_bitCount_0f7a4_43 : decode cJ6_bitCount_0f7a4 43 = .ok (.bipush 16, 2) := by decide +kernel
theorem dJ6_bitCount_0f7a4_45 : decode cJ6_bitCount_0f7a4 45 = .ok (.iushr, 1) := by decide +kernel
theorem dJ6_bitCount_0f7a4_46 : decode cJ6_bitCount_0f7a4 46 = .ok (.iadd, 1) := by decide +kernel
theorem dJ6_bitCount_0f7a4_47 : decode cJ6_bitCount_0f7a4 47 = .ok (.istore_n 0, 1) := by decide +kernel
theorem dJ6_bitCount_0f7a4_48 : decode cJ6_bitCount_0f7a4 48 = .ok (.iload_n 0, 1) := by decide +kernel
theorem dJ6_bitCount_0f7a4_49 : decode cJ6_bitCount_0f7a4 49 = .ok (.bipush 63, 2) := by decide +kernel
theorem dJ6_bitCount_0f7a4_51 : decode cJ6_bitCount_0f7a4 51 = .ok (.iand, 1) := by decide +kernel
theorem dJ6_bitCount_0f7a4_52 : decode cJ6_bitCount_0f7a4 52 = .ok (.ireturn, 1) := by decide +kernel
theorem dX7_mercy_0 : decode cX7_mercy 0 = .ok (.aload_n 0, 1) := by decide +kernel
theorem dX7_mercy_1 : decode cX7_mercy 1 = .ok (.iload_n 1, 1) := by decide +kernel
theorem dX7_mercy_2 : decode cX7_mercy 2 = .ok (.invokevirtual 194, 3) := by decide +kernel
theorem dX7_mercy_5 : decode cX7_mercy 5 = .ok (.aload_n 0, 1) := by decide +kernel
theorem dX7_mercy_6 : decode cX7_mercy 6 = .ok (.invokevirtual 131, 3) := by decide +kernel
theorem dX7_mercy_9 : decode cX7_mercy 9 = .ok (.astore_n 2, 1) := by decide +kernel
theorem dX7_mercy_10 : decode cX7_mercy 10 = .ok (.iconst (-1), 1) := by decide +kernel
theorem dX7_mercy_11 : decode cX7_mercy 11 = .ok (.istore_n 3, 1) := by decide +kernel
theorem dX7_mercy_12 : decode cX7_mercy 12 = .ok (.bipush 6, 2) := by decide +kernel
theorem dX7_mercy_14 : decode cX7_mercy 14 = .ok (.istore 4, 2) := by decide +kernel
theorem dX7_mercy_16 : decode cX7_mercy 16 = .ok (.iconst 0, 1) := by decide +kernel
theorem dX7_mercy_17 : decode cX7_mercy 17 = .ok (.istore 5, 2) := by decide +kernel
theorem dX7_mercy_19 : decode cX7_mercy 19 = .ok (.iload 5, 2) := by decide +kernel
theorem dX7_mercy_21 : decode cX7_mercy 21 = .ok (.iconst 1, 1) := by decide +kernel
theorem dX7_mercy_22 : decode cX7_mercy 22 = .ok (.aload_n 0, 1) := by decide +kernel
theorem dX7_mercy_23 : decode cX7_mercy 23 = .ok (.getfield 16, 3) := by decide +kernel
theorem dX7_mercy_26 : decode cX7_mercy 26 = .ok (.getfield 107, 3) := by decide +kernel
theorem dX7_mercy_29 : decode cX7_mercy 29 = .ok (.ishl, 1) := by decide +kernel
theorem dX7_mercy_30 : decode cX7_mercy 30 = .ok (.if_icmp .ge 54, 3) := by decide +kernel
theorem dX7_mercy_33 : decode cX7_mercy 33 = .ok (.iload 5, 2) := by decide +kernel
theorem dX7_mercy_35 : decode cX7_mercy 35 = .ok (.invokestatic 276, 3) := by decide +kernel
theorem dX7_mercy_38 : decode cX7_mercy 38 = .ok (.istore 6, 2) := by decide +kernel
theorem dX7_mercy_40 : decode cX7_mercy 40 = .ok (.iload 6, 2) := by decide +kernel
theorem dX7_mercy_42 : decode cX7_mercy 42 = .ok (.iload 4, 2) := by decide +kernel
theorem dX7_mercy_44 : decode cX7_mercy 44 = .ok (.if_icmp .ge 34, 3) := by decide +kernel
theorem dX7_mercy_47 : decode cX7_mercy 47 = .ok (.iload 5, 2) := by decide +kernel
theorem dX7_mercy_49 : decode cX7_mercy 49 = .ok (.aload_n 2, 1) := by decide +kernel
theorem dX7_mercy_50 : decode cX7_mercy 50 = .ok (.getfield 270, 3) := by decide +kernel
theorem dX7_mercy_53 : decode cX7_mercy 53 = .ok (.iand, 1) := by decide +kernel
theorem dX7_mercy_54 : decode cX7_mercy 54 = .ok (.ifCond .ne 24, 3) := by decide +kernel
theorem dX7_mercy_57 : decode cX7_mercy 57 = .ok (.aload_n 2, 1) := by decide +kernel
theorem dX7_mercy_58 : decode cX7_mercy 58 = .ok (.iload_n 1, 1) := by decide +kernel
theorem dX7_mercy_59 : decode cX7_mercy 59 = .ok (.iload 5, 2) := by decide +kernel
theorem dX7_mercy_61 : decode cX7_mercy 61 = .ok (.aload_n 2, 1) := by decide +kernel
theorem dX7_mercy_62 : decode cX7_mercy 62 = .ok (.getfield 270, 3) := by decide +kernel
theorem dX7_mercy_65 : decode cX7_mercy 65 = .ok (.invokevirtual 273, 3) := by decide +kernel
theorem dX7_mercy_68 : decode cX7_mercy 68 = .ok (.ifCond .ne 10, 3) := by decide +kernel
theorem dX7_mercy_71 : decode cX7_mercy 71 = .ok (.iload 5, 2) := by decide +kernel
theorem dX7_mercy_73 : decode cX7_mercy 73 = .ok (.istore_n 3, 1) := by decide +kernel
theorem dX7_mercy_74 : decode cX7_mercy 74 = .ok (.iload 6, 2) := by decide +kernel
theorem dX7_mercy_76 : decode cX7_mercy 76 = .ok (.istore 4, 2) := by decide +kernel
theorem dX7_mercy_78 : decode cX7_mercy 78 = .ok (.iinc 5 1, 3) := by decide +kernel
theorem dX7_mercy_81 : decode cX7_mercy 81 = .ok (.goto (-62), 3) := by decide +kernel
theorem dX7_mercy_84 : decode cX7_mercy 84 = .ok (.iload_n 3, 1) := by decide +kernel
theorem dX7_mercy_85 : decode cX7_mercy 85 = .ok (.ireturn, 1) := by decide +kernel
theorem dX7_deaf_0 : decode cX7_deaf 0 = .ok (.aload_n 0, 1) := by decide +kernel
theorem dX7_deaf_1 : decode cX7_deaf 1 = .ok (.iload_n 1, 1) := by decide +kernel
theorem dX7_deaf_2 : decode cX7_deaf 2 = .ok (.invokevirtual 163, 3) := by decide +kernel
theorem dX7_deaf_5 : decode cX7_deaf 5 = .ok (.aload_n 0, 1) := by decide +kernel
theorem dX7_deaf_6 : decode cX7_deaf 6 = .ok (.invokevirtual 131, 3) := by decide +kernel
theorem dX7_deaf_9 : decode cX7_deaf 9 = .ok (.astore_n 2, 1) := by decide +kernel
theorem dX7_deaf_10 : decode cX7_deaf 10 = .ok (.iconst 0, 1) := by decide +kernel
theorem dX7_deaf_11 : decode cX7_deaf 11 = .ok (.istore_n 3, 1) := by decide +kernel
theorem dX7_deaf_12 : decode cX7_deaf 12 = .ok (.iconst 0, 1) := by decide +kernel
theorem dX7_deaf_13 : decode cX7_deaf 13 = .ok (.istore 4, 2) := by decide +kernel
theorem dX7_deaf_15 : decode cX7_deaf 15 = .ok (.iload 4, 2) := by decide +kernel
theorem dX7_deaf_17 : decode cX7_deaf 17 = .ok (.aload_n 0, 1) := by decide +kernel
theorem dX7_deaf_18 : decode cX7_deaf 18 = .ok (.getfield 16, 3) := by decide +kernel
theorem dX7_deaf_21 : decode cX7_deaf 21 = .ok (.getfield 110, 3) := by decide +kernel
theorem dX7_deaf_24 : decode cX7_deaf 24 = .ok (.if_icmp .ge 30, 3) := by decide +kernel
theorem dX7_deaf_27 : decode cX7_deaf 27 = .ok (.aload_n 2, 1) := by decide +kernel
theorem dX7_deaf_28 : decode cX7_deaf 28 = .ok (.iload 4, 2) := by decide +kernel
theorem dX7_deaf_30 : decode cX7_deaf 30 = .ok (.iconst 0, 1) := by decide +kernel
theorem dX7_deaf_31 : decode cX7_deaf 31 = .ok (.aload_n 2, 1) := by decide +kernel
theorem dX7_deaf_32 : decode cX7_deaf 32 = .ok (.getfield 270, 3) := by decide +kernel
theorem dX7_deaf_35 : decode cX7_deaf 35 = .ok (.iconst 1, 1) := by decide +kernel
theorem dX7_deaf_36 : decode cX7_deaf 36 = .ok (.iload_n 1, 1) := by decide +kernel
theorem dX7_deaf_37 : decode cX7_deaf 37 = .ok (.ishl, 1) := by decide +kernel
theorem dX7_deaf_38 : decode cX7_deaf 38 = .ok (.ixor, 1) := by decide +kernel
theorem dX7_deaf_39 : decode cX7_deaf 39 = .ok (.invokevirtual 273, 3) := by decide +kernel
theorem dX7_deaf_42 : decode cX7_deaf 42 = .ok (.ifCond .eq 6, 3) := by decide +kernel
theorem dX7_deaf_45 : decode cX7_deaf 45 = .ok (.iinc 3 1, 3) := by decide +kernel
theorem dX7_deaf_48 : decode cX7_deaf 48 = .ok (.iinc 4 1, 3) := by decide +kernel
theorem dX7_deaf_51 : decode cX7_deaf 51 = .ok (.goto (-36), 3) := by decide +kernel
theorem dX7_deaf_54 : decode cX7_deaf 54 = .ok (.iload_n 3, 1) := by decide +kernel
theorem dX7_deaf_55 : decode cX7_deaf 55 = .ok (.ireturn, 1) := by decide +kernel
def f_X7_burn_34   : Nat → Mem → PMem → Int32 → Int32 → Int32 → Int32 → Option ((Int32 × Mem × PMem) ⊕ Nat)
  | 0, _, _, _, _, _, _ => none
  | fu + 1, I, P, v1, v2, v3, v4 =>
    gd (decide ((P 7 0 0 2) < 2)) <|
    if (I 3 (P 7 0 0 2) 0 0) ≤ v4 then (if v1 = 0 then (some (Sum.inl (v2, I, P))) else (some (Sum.inl (v3, I, P)))) else (if ((jushr (I 0 0 0 1) v4) &&& (1 : Int32)) = (1 : Int32) then ((f_X1_meetAll P 1 I ((I 0 0 0 1) &&& ((jshl (1 : Int32) v4) ^^^ (-1 : Int32)))).bind fun y1 =>
    (f_X1_decideAll P 1 y1).bind fun y2 =>
    (f_X1_howManyGuilty y2 P 1).bind fun y3 =>
    if y3 ≤ v3 then ((f_X7_burn_34 fu) y2 P v1 v2 v3 (v4 + (1 : Int32))) else ((f_X7_burn_34 fu) y2 P v1 v4 y3 (v4 + (1 : Int32)))) else ((f_X7_burn_34 fu) I P v1 v2 v3 (v4 + (1 : Int32))))
theorem b_X7_burn_34 (X : CX) (Q : State → Prop) {O : Nat → Int64} {D : Bool} {n : Nat} {r : (Int32 × Mem × PMem)}  : ∀ (fu : Nat) {I : Mem} {P : PMem} {v1 : Int32} {v2 : Int32} {v3 : Int32} {v4 : Int32}, f_X7_burn_34 fu I P v1 v2 v3 v4 = some (Sum.inl r) → EndR X cX7_burn RX7 6 (some .int) 9 n (some (.inl r.1)) r.2.1 r.2.2 O D Q → Here X cX7_burn RX7 6 (some .int) 9 n 34 [some (.inr (.inr (7, 0, 0))), some (.inl v1), some (.inl v2), some (.inl v3), some (.inl v4), none] [] I P O D n Q := by
  intro fu
  induction fu with
  | zero => intro I P v1 v2 v3 v4 h E; cases h
  | succ fu ih =>
  intro I P v1 v2 v3 v4 h E
  have H34 : ∀ (I : Mem) (P : PMem) (v1 : Int32) (v2 : Int32) (v3 : Int32) (v4 : Int32), f_X7_burn_34 fu I P v1 v2 v3 v4 = some (Sum.inl r) → Here X cX7_burn RX7 6 (some .int) 9 n 34 [some (.inr (.inr (7, 0, 0))), some (.inl v1), some (.inl v2), some (.inl v3), some (.inl v4), none] [] I P O D n Q := fun _ _ _ _ _ _ b => ih b E
  simp only [f_X7_burn_34] at h
  refine h_iload dX7_burn_34 rfl ?_
  refine h_aload_n dX7_burn_36 rfl ?_
  refine g_X7_16  dX7_burn_37 ?_
  obtain ⟨g1, h⟩ := gd_some h
  have w1 := of_decide_eq_true g1
  refine g_X7_97 (by omega) dX7_burn_40 ?_
  refine h_icmp_ge (tgt := 117) dX7_burn_43 (by decide) (fun q1 => ?_) (fun q1 => ?_)
  · rw [if_pos q1] at h
    refine h_iload_n dX7_burn_117 rfl ?_
    refine h_if_ne (tgt := 125) dX7_burn_118 (by decide) (fun q2 => ?_) (fun q2 => ?_)
    · rw [if_neg q2] at h
      refine h_iload_n dX7_burn_125 rfl ?_
      cases h
      exact h_iret dX7_burn_126 rfl E
    · rw [if_pos q2] at h
      refine h_iload_n dX7_burn_121 rfl ?_
      refine h_goto (tgt := 126) dX7_burn_122 (by decide) ?_
      cases h
      exact h_iret dX7_burn_126 rfl E
  · rw [if_neg q1] at h
    refine h_aload_n dX7_burn_46 rfl ?_
    refine g_X7_35  dX7_burn_47 ?_
    refine g_X7_113 (by decide) dX7_burn_50 ?_
    refine h_iload dX7_burn_53 rfl ?_
    refine h_ushr dX7_burn_55 ?_
    refine h_iconst (1 : Int32) dX7_burn_56 k_iconst_1 ?_
    refine h_iand dX7_burn_57 ?_
    refine h_iconst (1 : Int32) dX7_burn_58 k_iconst_1 ?_
    refine h_icmp_ne (tgt := 111) dX7_burn_59 (by decide) (fun q3 => ?_) (fun q3 => ?_)
    · rw [if_neg q3] at h
      refine h_iinc (1 : Int32) dX7_burn_111 rfl k_iinc_1 (by decide) rfl ?_
      refine h_goto (tgt := 34) dX7_burn_114 (by decide) ?_
      exact (H34 _ _ _ _ _ _ h)
    · rw [if_pos q3] at h
      refine h_aload_n dX7_burn_62 rfl ?_
      refine g_X7_51  dX7_burn_63 ?_
      refine h_aload_n dX7_burn_66 rfl ?_
      refine g_X7_35  dX7_burn_67 ?_
      refine g_X7_113 (by decide) dX7_burn_70 ?_
      refine h_iconst (1 : Int32) dX7_burn_73 k_iconst_1 ?_
      refine h_iload dX7_burn_74 rfl ?_
      refine h_shl dX7_burn_76 ?_
      refine h_iconst (-1 : Int32) dX7_burn_77 k_iconst_m1 ?_
      refine h_ixor dX7_burn_78 ?_
      refine h_iand dX7_burn_79 ?_
      obtain ⟨y1, hh1, h⟩ := obd_some h
      refine h_cVv [.inl ((I 0 0 0 1) &&& ((jshl (1 : Int32) v4) ^^^ (-1 : Int32)))] (m_X1_meetAll (by decide) hh1) cw_X7_253 dX7_burn_80 rfl (ok_1 (by decide)) (by decide) rfl (Or.inr rfl) rfl ?_
      refine h_aload_n dX7_burn_83 rfl ?_
      refine g_X7_51  dX7_burn_84 ?_
      obtain ⟨y2, hh2, h⟩ := obd_some h
      refine h_cVv [] (m_X1_decideAll (by decide) hh2) cw_X7_256 dX7_burn_87 rfl (ok_1 (by decide)) (by decide) rfl (Or.inr rfl) rfl ?_
      refine h_aload_n dX7_burn_90 rfl ?_
      refine g_X7_51  dX7_burn_91 ?_
      obtain ⟨y3, hh3, h⟩ := obd_some h
      refine h_cVi [] (m_X1_howManyGuilty (by decide) hh3) cw_X7_135 dX7_burn_94 rfl (ok_1 (by decide)) (by decide) rfl (Or.inr rfl) rfl ?_
      refine h_istore dX7_burn_97 (by decide) rfl ?_
      refine h_iload dX7_burn_99 rfl ?_
      refine h_iload_n dX7_burn_101 rfl ?_
      refine h_icmp_le (tgt := 111) dX7_burn_102 (by decide) (fun q4 => ?_) (fun q4 => ?_)
      · rw [if_pos q4] at h
        refine h_iinc (1 : Int32) dX7_burn_111 rfl k_iinc_1 (by decide) rfl ?_
        refine h_goto (tgt := 34) dX7_burn_114 (by decide) ?_
        exact h_mask [true, true, true, true, true, false] (H34 _ _ _ _ _ _ h)
      · rw [if_neg q4] at h
        refine h_iload dX7_burn_105 rfl ?_
        refine h_istore_n dX7_burn_107 (by decide) rfl ?_
        refine h_iload dX7_burn_108 rfl ?_
        refine h_istore_n dX7_burn_110 (by decide) rfl ?_
        refine h_iinc (1 : Int32) dX7_burn_111 rfl k_iinc_1 (by decide) rfl ?_
        refine h_goto (tgt := 34) dX7_burn_114 (by decide) ?_
        exact h_mask [true, true, true, true, true, false] (H34 _ _ _ _ _ _ h)
theorem bx_X7_burn_34 (X : CX) (Q : State → Prop) {O : Nat → Int64} {I0 : Mem} {P0 : PMem} {D : Bool} {n : Nat} {r : Nat}  : ∀ (fu : Nat) {I : Mem} {P : PMem} {v1 : Int32} {v2 : Int32} {v3 : Int32} {v4 : Int32}, f_X7_burn_34 fu I P v1 v2 v3 v4 = some (Sum.inr r) → EndX X cX7_burn RX7 6 (some .int) 9 (n + 1) r I0 P0 O D Q → Here X cX7_burn RX7 6 (some .int) 9 (n + 1) 34 [some (.inr (.inr (7, 0, 0))), some (.inl v1), some (.inl v2), some (.inl v3), some (.inl v4), none] [] I P O D n Q := by
  intro fu
  induction fu with
  | zero => intro I P v1 v2 v3 v4 h E; cases h
  | succ fu ih =>
  intro I P v1 v2 v3 v4 h E
  have H34 : ∀ (I : Mem) (P : PMem) (v1 : Int32) (v2 : Int32) (v3 : Int32) (v4 : Int32), f_X7_burn_34 fu I P v1 v2 v3 v4 = some (Sum.inr r) → Here X cX7_burn RX7 6 (some .int) 9 (n + 1) 34 [some (.inr (.inr (7, 0, 0))), some (.inl v1), some (.inl v2), some (.inl v3), some (.inl v4), none] [] I P O D n Q := fun _ _ _ _ _ _ b => ih b E
  simp only [f_X7_burn_34] at h
  refine h_iload dX7_burn_34 rfl ?_
  refine h_aload_n dX7_burn_36 rfl ?_
  refine g_X7_16  dX7_burn_37 ?_
  obtain ⟨g1, h⟩ := gd_some h
  have w1 := of_decide_eq_true g1
  refine g_X7_97 (by omega) dX7_burn_40 ?_
  refine h_icmp_ge (tgt := 117) dX7_burn_43 (by decide) (fun q1 => ?_) (fun q1 => ?_)
  · rw [if_pos q1] at h
    refine h_iload_n dX7_burn_117 rfl ?_
    refine h_if_ne (tgt := 125) dX7_burn_118 (by decide) (fun q2 => ?_) (fun q2 => ?_)
    · rw [if_neg q2] at h
      refine h_iload_n dX7_burn_125 rfl ?_
      cases h
    · rw [if_pos q2] at h
      refine h_iload_n dX7_burn_121 rfl ?_
      refine h_goto (tgt := 126) dX7_burn_122 (by decide) ?_
      cases h
  · rw [if_neg q1] at h
    refine h_aload_n dX7_burn_46 rfl ?_
    refine g_X7_35  dX7_burn_47 ?_
    refine g_X7_113 (by decide) dX7_burn_50 ?_
    refine h_iload dX7_burn_53 rfl ?_
    refine h_ushr dX7_burn_55 ?_
    refine h_iconst (1 : Int32) dX7_burn_56 k_iconst_1 ?_
    refine h_iand dX7_burn_57 ?_
    refine h_iconst (1 : Int32) dX7_burn_58 k_iconst_1 ?_
    refine h_icmp_ne (tgt := 111) dX7_burn_59 (by decide) (fun q3 => ?_) (fun q3 => ?_)
    · rw [if_neg q3] at h
      refine h_iinc (1 : Int32) dX7_burn_111 rfl k_iinc_1 (by decide) rfl ?_
      refine h_goto (tgt := 34) dX7_burn_114 (by decide) ?_
      exact (H34 _ _ _ _ _ _ h)
    · rw [if_pos q3] at h
      refine h_aload_n dX7_burn_62 rfl ?_
      refine g_X7_51  dX7_burn_63 ?_
      refine h_aload_n dX7_burn_66 rfl ?_
      refine g_X7_35  dX7_burn_67 ?_
      refine g_X7_113 (by decide) dX7_burn_70 ?_
      refine h_iconst (1 : Int32) dX7_burn_73 k_iconst_1 ?_
      refine h_iload dX7_burn_74 rfl ?_
      refine h_shl dX7_burn_76 ?_
      refine h_iconst (-1 : Int32) dX7_burn_77 k_iconst_m1 ?_
      refine h_ixor dX7_burn_78 ?_
      refine h_iand dX7_burn_79 ?_
      obtain ⟨y1, hh1, h⟩ := obd_some h
      refine h_cVv [.inl ((I 0 0 0 1) &&& ((jshl (1 : Int32) v4) ^^^ (-1 : Int32)))] (m_X1_meetAll (by decide) hh1) cw_X7_253 dX7_burn_80 rfl (ok_1 (by decide)) (by decide) rfl (Or.inr rfl) rfl ?_
      refine h_aload_n dX7_burn_83 rfl ?_
      refine g_X7_51  dX7_burn_84 ?_
      obtain ⟨y2, hh2, h⟩ := obd_some h
      refine h_cVv [] (m_X1_decideAll (by decide) hh2) cw_X7_256 dX7_burn_87 rfl (ok_1 (by decide)) (by decide) rfl (Or.inr rfl) rfl ?_
      refine h_aload_n dX7_burn_90 rfl ?_
      refine g_X7_51  dX7_burn_91 ?_
      obtain ⟨y3, hh3, h⟩ := obd_some h
      refine h_cVi [] (m_X1_howManyGuilty (by decide) hh3) cw_X7_135 dX7_burn_94 rfl (ok_1 (by decide)) (by decide) rfl (Or.inr rfl) rfl ?_
      refine h_istore dX7_burn_97 (by decide) rfl ?_
      refine h_iload dX7_burn_99 rfl ?_
      refine h_iload_n dX7_burn_101 rfl ?_
      refine h_icmp_le (tgt := 111) dX7_burn_102 (by decide) (fun q4 => ?_) (fun q4 => ?_)
      · rw [if_pos q4] at h
        refine h_iinc (1 : Int32) dX7_burn_111 rfl k_iinc_1 (by decide) rfl ?_
        refine h_goto (tgt := 34) dX7_burn_114 (by decide) ?_
        exact h_mask [true, true, true, true, true, false] (H34 _ _ _ _ _ _ h)
      · rw [if_neg q4] at h
        refine h_iload dX7_burn_105 rfl ?_
        refine h_istore_n dX7_burn_107 (by decide) rfl ?_
        refine h_iload dX7_burn_108 rfl ?_
        refine h_istore_n dX7_burn_110 (by decide) rfl ?_
        refine h_iinc (1 : Int32) dX7_burn_111 rfl k_iinc_1 (by decide) rfl ?_
        refine h_goto (tgt := 34) dX7_burn_114 (by decide) ?_
        exact h_mask [true, true, true, true, true, false] (H34 _ _ _ _ _ _ h)
def f_X7_burn   (I : Mem) (P : PMem) (v1 : Int32) : Option ((Int32 × Mem × PMem) ⊕ Nat) :=
  thb (f_X7_requireWhat I v1 (1 : Int32)) fun y1 =>
  gd (decide ((P 7 0 0 2) < 2)) <|
  (f_X1_load 1 (P 7 0 0 2) 0 I P).bind fun y2 =>
  (f_X1_hearAll y2.2 1 y2.1).bind fun y3 =>
  f_X7_burn_34 FU y3 y2.2 v1 (-1 : Int32) (-1 : Int32) (0 : Int32)
theorem b_X7_burn (X : CX) (Q : State → Prop) {I : Mem} {P : PMem} {O : Nat → Int64} {D : Bool} {n : Nat} {v1 : Int32} {r : (Int32 × Mem × PMem)}  (h : f_X7_burn I P v1 = some (Sum.inl r)) (E : EndR X cX7_burn RX7 6 (some .int) 9 n (some (.inl r.1)) r.2.1 r.2.2 O D Q) : Here X cX7_burn RX7 6 (some .int) 9 n 0 [some (.inr (.inr (7, 0, 0))), some (.inl v1), none, none, none, none] [] I P O D n Q := by
  unfold f_X7_burn at h
  refine h_iload_n dX7_burn_0 rfl ?_
  refine h_iconst (1 : Int32) dX7_burn_1 k_iconst_1 ?_
  obtain ⟨y1, hh1, h⟩ := thb_R h
  refine h_cSv [.inl v1, .inl (1 : Int32)] (m_X7_requireWhat  hh1) cs_X7_152 dX7_burn_2 rfl (by decide) rfl (Or.inr rfl) rfl ?_
  refine h_aload_n dX7_burn_5 rfl ?_
  refine g_X7_51  dX7_burn_6 ?_
  refine h_aload_n dX7_burn_9 rfl ?_
  refine g_X7_16  dX7_burn_10 ?_
  obtain ⟨g1, h⟩ := gd_some h
  have w1 := of_decide_eq_true g1
  refine h_aload_n dX7_burn_13 rfl ?_
  refine g_X7_35  dX7_burn_14 ?_
  obtain ⟨y2, hh2, h⟩ := obd_some h
  refine h_cVv [.inr (.inr (3, (P 7 0 0 2), 0)), .inr (.inr (0, 0, 0))] (m_X1_load (by decide) (by omega) (by decide) hh2) cw_X7_247 dX7_burn_17 rfl (ok_1 (by decide)) (by decide) rfl (Or.inr rfl) rfl ?_
  refine h_aload_n dX7_burn_20 rfl ?_
  refine g_X7_51  dX7_burn_21 ?_
  obtain ⟨y3, hh3, h⟩ := obd_some h
  refine h_cVv [] (m_X1_hearAll (by decide) hh3) cw_X7_250 dX7_burn_24 rfl (ok_1 (by decide)) (by decide) rfl (Or.inr rfl) rfl ?_
  refine h_iconst (-1 : Int32) dX7_burn_27 k_iconst_m1 ?_
  refine h_istore_n dX7_burn_28 (by decide) rfl ?_
  refine h_iconst (-1 : Int32) dX7_burn_29 k_iconst_m1 ?_
  refine h_istore_n dX7_burn_30 (by decide) rfl ?_
  refine h_iconst (0 : Int32) dX7_burn_31 k_iconst_0 ?_
  refine h_istore dX7_burn_32 (by decide) rfl ?_
  exact (b_X7_burn_34 X Q FU  h E)
theorem bx_X7_burn (X : CX) (Q : State → Prop) {I : Mem} {P : PMem} {O : Nat → Int64} {D : Bool} {n : Nat} {v1 : Int32} {r : Nat}  (h : f_X7_burn I P v1 = some (Sum.inr r)) (E : EndX X cX7_burn RX7 6 (some .int) 9 (n + 1) r I P O D Q) : Here X cX7_burn RX7 6 (some .int) 9 (n + 1) 0 [some (.inr (.inr (7, 0, 0))), some (.inl v1), none, none, none, none] [] I P O D n Q := by
  unfold f_X7_burn at h
  refine h_iload_n dX7_burn_0 rfl ?_
  refine h_iconst (1 : Int32) dX7_burn_1 k_iconst_1 ?_
  rcases thb_X h with hh1 | ⟨y1, hh1, h⟩
  · exact h_callSX (as := [.inl v1, .inl (1 : Int32)]) (mx_X7_requireWhat  hh1) cs_X7_152 dX7_burn_2 rfl (by decide) rfl rfl E
  refine h_cSv [.inl v1, .inl (1 : Int32)] (m_X7_requireWhat  hh1) cs_X7_152 dX7_burn_2 rfl (by decide) rfl (Or.inr rfl) rfl ?_
  refine h_aload_n dX7_burn_5 rfl ?_
  refine g_X7_51  dX7_burn_6 ?_
  refine h_aload_n dX7_burn_9 rfl ?_
  refine g_X7_16  dX7_burn_10 ?_
  obtain ⟨g1, h⟩ := gd_some h
  have w1 := of_decide_eq_true g1
  refine h_aload_n dX7_burn_13 rfl ?_
  refine g_X7_35  dX7_burn_14 ?_
  obtain ⟨y2, hh2, h⟩ := obd_some h
  refine h_cVv [.inr (.inr (3, (P 7 0 0 2), 0)), .inr (.inr (0, 0, 0))] (m_X1_load (by decide) (by omega) (by decide) hh2) cw_X7_247 dX7_burn_17 rfl (ok_1 (by decide)) (by decide) rfl (Or.inr rfl) rfl ?_
  refine h_aload_n dX7_burn_20 rfl ?_
  refine g_X7_51  dX7_burn_21 ?_
  obtain ⟨y3, hh3, h⟩ := obd_some h
  refine h_cVv [] (m_X1_hearAll (by decide) hh3) cw_X7_250 dX7_burn_24 rfl (ok_1 (by decide)) (by decide) rfl (Or.inr rfl) rfl ?_
  refine h_iconst (-1 : Int32) dX7_burn_27 k_iconst_m1 ?_
  refine h_istore_n dX7_burn_28 (by decide) rfl ?_
  refine h_iconst (-1 : Int32) dX7_burn_29 k_iconst_m1 ?_
  refine h_istore_n dX7_burn_30 (by decide) rfl ?_
  refine h_iconst (0 : Int32) dX7_burn_31 k_iconst_0 ?_
  refine h_istore dX7_burn_32 (by decide) rfl ?_
  exact (bx_X7_burn_34 X Q FU  h E)
theorem m_X7_burn {I : Mem} {P : PMem} {O : Nat → Int64} {D : Bool} {n : Nat} {v1 : Int32} {r : (Int32 × Mem × PMem)}  (h : f_X7_burn I P v1 = some (Sum.inl r)) : MethR yX7_burn cX7_burn 6 (some .int) 9 [.inr (.inr (7, 0, 0)), .inl v1] I P O D n (some (.inl r.1)) r.2.1 r.2.2 O D n := meth_R (Nat.le_refl _) (by decide) rfl (Nat.le_of_ble_eq_true rfl) rfl (fun X Q E => b_X7_burn X Q  h E)
theorem mx_X7_burn {I : Mem} {P : PMem} {O : Nat → Int64} {D : Bool} {n : Nat} {v1 : Int32} {r : Nat}  (h : f_X7_burn I P v1 = some (Sum.inr r)) : MethX yX7_burn cX7_burn 6 (some .int) 9 [.inr (.inr (7, 0, 0)), .inl v1] I P O D n r I P O D (n + 1) := meth_X (Nat.le_succ _) (by decide) rfl (Nat.le_of_ble_eq_true rfl) rfl (fun X Q E => bx_X7_burn X Q  h E)
def f_X7_when_33   : Nat → Mem → PMem → Int32 → Int32 → Int32 → Int32 → Int32 → Option ((Int32 × Mem × PMem) ⊕ Nat)
  | 0, _, _, _, _, _, _, _ => none
  | fu + 1, I, P, v1, v2, v3, v4, v5 =>
    if (60 : Int32) < v5 then (if v2 = 0 then (some (Sum.inl (v3, I, P))) else (some (Sum.inl (v4, I, P)))) else ((f_X1_sendOut P 1 I v1 v5 (0 : Int32)).bind fun y1 =>
    (f_X1_settle P 1 y1).bind fun y2 =>
    (f_X1_howManyGuilty y2 P 1).bind fun y3 =>
    if y3 ≤ v4 then ((f_X7_when_33 fu) y2 P v1 v2 v3 v4 (v5 + (1 : Int32))) else ((f_X7_when_33 fu) y2 P v1 v2 v5 y3 (v5 + (1 : Int32))))
theorem b_X7_when_33 (X : CX) (Q : State → Prop) {O : Nat → Int64} {D : Bool} {n : Nat} {r : (Int32 × Mem × PMem)}  : ∀ (fu : Nat) {I : Mem} {P : PMem} {v1 : Int32} {v2 : Int32} {v3 : Int32} {v4 : Int32} {v5 : Int32}, f_X7_when_33 fu I P v1 v2 v3 v4 v5 = some (Sum.inl r) → EndR X cX7_when RX7 7 (some .int) 9 n (some (.inl r.1)) r.2.1 r.2.2 O D Q → Here X cX7_when RX7 7 (some .int) 9 n 33 [some (.inr (.inr (7, 0, 0))), some (.inl v1), some (.inl v2), some (.inl v3), some (.inl v4), some (.inl v5), none] [] I P O D n Q := by
  intro fu
  induction fu with
  | zero => intro I P v1 v2 v3 v4 v5 h E; cases h
  | succ fu ih =>
  intro I P v1 v2 v3 v4 v5 h E
  have H33 : ∀ (I : Mem) (P : PMem) (v1 : Int32) (v2 : Int32) (v3 : Int32) (v4 : Int32) (v5 : Int32), f_X7_when_33 fu I P v1 v2 v3 v4 v5 = some (Sum.inl r) → Here X cX7_when RX7 7 (some .int) 9 n 33 [some (.inr (.inr (7, 0, 0))), some (.inl v1), some (.inl v2), some (.inl v3), some (.inl v4), some (.inl v5), none] [] I P O D n Q := fun _ _ _ _ _ _ _ b => ih b E
  simp only [f_X7_when_33] at h
  refine h_iload dX7_when_33 rfl ?_
  refine h_bipush (60 : Int32) dX7_when_35 k_bipush_60 ?_
  refine h_icmp_gt (tgt := 87) dX7_when_37 (by decide) (fun q1 => ?_) (fun q1 => ?_)
  · rw [if_pos q1] at h
    refine h_iload_n dX7_when_87 rfl ?_
    refine h_if_ne (tgt := 95) dX7_when_88 (by decide) (fun q2 => ?_) (fun q2 => ?_)
    · rw [if_neg q2] at h
      refine h_iload dX7_when_95 rfl ?_
      cases h
      exact h_iret dX7_when_97 rfl E
    · rw [if_pos q2] at h
      refine h_iload_n dX7_when_91 rfl ?_
      refine h_goto (tgt := 97) dX7_when_92 (by decide) ?_
      cases h
      exact h_iret dX7_when_97 rfl E
  · rw [if_neg q1] at h
    refine h_aload_n dX7_when_40 rfl ?_
    refine g_X7_51  dX7_when_41 ?_
    refine h_iload_n dX7_when_44 rfl ?_
    refine h_iload dX7_when_45 rfl ?_
    refine h_iconst (0 : Int32) dX7_when_47 k_iconst_0 ?_
    obtain ⟨y1, hh1, h⟩ := obd_some h
    refine h_cVv [.inl v1, .inl v5, .inl (0 : Int32)] (m_X1_sendOut (by decide) hh1) cw_X7_259 dX7_when_48 rfl (ok_1 (by decide)) (by decide) rfl (Or.inr rfl) rfl ?_
    refine h_aload_n dX7_when_51 rfl ?_
    refine g_X7_51  dX7_when_52 ?_
    obtain ⟨y2, hh2, h⟩ := obd_some h
    refine h_cVv [] (m_X1_settle (by decide) hh2) cw_X7_263 dX7_when_55 rfl (ok_1 (by decide)) (by decide) rfl (Or.inr rfl) rfl ?_
    refine h_aload_n dX7_when_58 rfl ?_
    refine g_X7_51  dX7_when_59 ?_
    obtain ⟨y3, hh3, h⟩ := obd_some h
    refine h_cVi [] (m_X1_howManyGuilty (by decide) hh3) cw_X7_135 dX7_when_62 rfl (ok_1 (by decide)) (by decide) rfl (Or.inr rfl) rfl ?_
    refine h_istore dX7_when_65 (by decide) rfl ?_
    refine h_iload dX7_when_67 rfl ?_
    refine h_iload dX7_when_69 rfl ?_
    refine h_icmp_le (tgt := 81) dX7_when_71 (by decide) (fun q3 => ?_) (fun q3 => ?_)
    · rw [if_pos q3] at h
      refine h_iinc (1 : Int32) dX7_when_81 rfl k_iinc_1 (by decide) rfl ?_
      refine h_goto (tgt := 33) dX7_when_84 (by decide) ?_
      exact h_mask [true, true, true, true, true, true, false] (H33 _ _ _ _ _ _ _ h)
    · rw [if_neg q3] at h
      refine h_iload dX7_when_74 rfl ?_
      refine h_istore dX7_when_76 (by decide) rfl ?_
      refine h_iload dX7_when_78 rfl ?_
      refine h_istore_n dX7_when_80 (by decide) rfl ?_
      refine h_iinc (1 : Int32) dX7_when_81 rfl k_iinc_1 (by decide) rfl ?_
      refine h_goto (tgt := 33) dX7_when_84 (by decide) ?_
      exact h_mask [true, true, true, true, true, true, false] (H33 _ _ _ _ _ _ _ h)
theorem bx_X7_when_33 (X : CX) (Q : State → Prop) {O : Nat → Int64} {I0 : Mem} {P0 : PMem} {D : Bool} {n : Nat} {r : Nat}  : ∀ (fu : Nat) {I : Mem} {P : PMem} {v1 : Int32} {v2 : Int32} {v3 : Int32} {v4 : Int32} {v5 : Int32}, f_X7_when_33 fu I P v1 v2 v3 v4 v5 = some (Sum.inr r) → EndX X cX7_when RX7 7 (some .int) 9 (n + 1) r I0 P0 O D Q → Here X cX7_when RX7 7 (some .int) 9 (n + 1) 33 [some (.inr (.inr (7, 0, 0))), some (.inl v1), some (.inl v2), some (.inl v3), some (.inl v4), some (.inl v5), none] [] I P O D n Q := by
  intro fu
  induction fu with
  | zero => intro I P v1 v2 v3 v4 v5 h E; cases h
  | succ fu ih =>
  intro I P v1 v2 v3 v4 v5 h E
  have H33 : ∀ (I : Mem) (P : PMem) (v1 : Int32) (v2 : Int32) (v3 : Int32) (v4 : Int32) (v5 : Int32), f_X7_when_33 fu I P v1 v2 v3 v4 v5 = some (Sum.inr r) → Here X cX7_when RX7 7 (some .int) 9 (n + 1) 33 [some (.inr (.inr (7, 0, 0))), some (.inl v1), some (.inl v2), some (.inl v3), some (.inl v4), some (.inl v5), none] [] I P O D n Q := fun _ _ _ _ _ _ _ b => ih b E
  simp only [f_X7_when_33] at h
  refine h_iload dX7_when_33 rfl ?_
  refine h_bipush (60 : Int32) dX7_when_35 k_bipush_60 ?_
  refine h_icmp_gt (tgt := 87) dX7_when_37 (by decide) (fun q1 => ?_) (fun q1 => ?_)
  · rw [if_pos q1] at h
    refine h_iload_n dX7_when_87 rfl ?_
    refine h_if_ne (tgt := 95) dX7_when_88 (by decide) (fun q2 => ?_) (fun q2 => ?_)
    · rw [if_neg q2] at h
      refine h_iload dX7_when_95 rfl ?_
      cases h
    · rw [if_pos q2] at h
      refine h_iload_n dX7_when_91 rfl ?_
      refine h_goto (tgt := 97) dX7_when_92 (by decide) ?_
      cases h
  · rw [if_neg q1] at h
    refine h_aload_n dX7_when_40 rfl ?_
    refine g_X7_51  dX7_when_41 ?_
    refine h_iload_n dX7_when_44 rfl ?_
    refine h_iload dX7_when_45 rfl ?_
    refine h_iconst (0 : Int32) dX7_when_47 k_iconst_0 ?_
    obtain ⟨y1, hh1, h⟩ := obd_some h
    refine h_cVv [.inl v1, .inl v5, .inl (0 : Int32)] (m_X1_sendOut (by decide) hh1) cw_X7_259 dX7_when_48 rfl (ok_1 (by decide)) (by decide) rfl (Or.inr rfl) rfl ?_
    refine h_aload_n dX7_when_51 rfl ?_
    refine g_X7_51  dX7_when_52 ?_
    obtain ⟨y2, hh2, h⟩ := obd_some h
    refine h_cVv [] (m_X1_settle (by decide) hh2) cw_X7_263 dX7_when_55 rfl (ok_1 (by decide)) (by decide) rfl (Or.inr rfl) rfl ?_
    refine h_aload_n dX7_when_58 rfl ?_
    refine g_X7_51  dX7_when_59 ?_
    obtain ⟨y3, hh3, h⟩ := obd_some h
    refine h_cVi [] (m_X1_howManyGuilty (by decide) hh3) cw_X7_135 dX7_when_62 rfl (ok_1 (by decide)) (by decide) rfl (Or.inr rfl) rfl ?_
    refine h_istore dX7_when_65 (by decide) rfl ?_
    refine h_iload dX7_when_67 rfl ?_
    refine h_iload dX7_when_69 rfl ?_
    refine h_icmp_le (tgt := 81) dX7_when_71 (by decide) (fun q3 => ?_) (fun q3 => ?_)
    · rw [if_pos q3] at h
      refine h_iinc (1 : Int32) dX7_when_81 rfl k_iinc_1 (by decide) rfl ?_
      refine h_goto (tgt := 33) dX7_when_84 (by decide) ?_
      exact h_mask [true, true, true, true, true, true, false] (H33 _ _ _ _ _ _ _ h)
    · rw [if_neg q3] at h
      refine h_iload dX7_when_74 rfl ?_
      refine h_istore dX7_when_76 (by decide) rfl ?_
      refine h_iload dX7_when_78 rfl ?_
      refine h_istore_n dX7_when_80 (by decide) rfl ?_
      refine h_iinc (1 : Int32) dX7_when_81 rfl k_iinc_1 (by decide) rfl ?_
      refine h_goto (tgt := 33) dX7_when_84 (by decide) ?_
      exact h_mask [true, true, true, true, true, true, false] (H33 _ _ _ _ _ _ _ h)
def f_X7_when   (I : Mem) (P : PMem) (v1 : Int32) (v2 : Int32) : Option ((Int32 × Mem × PMem) ⊕ Nat) :=
  thb (f_X7_requireJudge I P v1) fun y1 =>
  thb (f_X7_requireWhat I v2 (1 : Int32)) fun y2 =>
  gd (decide ((P 7 0 0 2) < 2)) <|
  (f_X1_load 1 (P 7 0 0 2) 0 I P).bind fun y3 =>
  f_X7_when_33 FU y3.1 y3.2 v1 v2 (-1 : Int32) (-1 : Int32) (0 : Int32)
theorem b_X7_when (X : CX) (Q : State → Prop) {I : Mem} {P : PMem} {O : Nat → Int64} {D : Bool} {n : Nat} {v1 : Int32} {v2 : Int32} {r : (Int32 × Mem × PMem)}  (h : f_X7_when I P v1 v2 = some (Sum.inl r)) (E : EndR X cX7_when RX7 7 (some .int) 9 n (some (.inl r.1)) r.2.1 r.2.2 O D Q) : Here X cX7_when RX7 7 (some .int) 9 n 0 [some (.inr (.inr (7, 0, 0))), some (.inl v1), some (.inl v2), none, none, none, none] [] I P O D n Q := by
  unfold f_X7_when at h
  refine h_aload_n dX7_when_0 rfl ?_
  refine h_iload_n dX7_when_1 rfl ?_
  obtain ⟨y1, hh1, h⟩ := thb_R h
  refine h_cVv [.inl v1] (m_X7_requireJudge  hh1) cw_X7_163 dX7_when_2 rfl ok_7 (by decide) rfl (Or.inr rfl) rfl ?_
  refine h_iload_n dX7_when_5 rfl ?_
  refine h_iconst (1 : Int32) dX7_when_6 k_iconst_1 ?_
  obtain ⟨y2, hh2, h⟩ := thb_R h
  refine h_cSv [.inl v2, .inl (1 : Int32)] (m_X7_requireWhat  hh2) cs_X7_152 dX7_when_7 rfl (by decide) rfl (Or.inr rfl) rfl ?_
  refine h_aload_n dX7_when_10 rfl ?_
  refine g_X7_51  dX7_when_11 ?_
  refine h_aload_n dX7_when_14 rfl ?_
  refine g_X7_16  dX7_when_15 ?_
  obtain ⟨g1, h⟩ := gd_some h
  have w1 := of_decide_eq_true g1
  refine h_aload_n dX7_when_18 rfl ?_
  refine g_X7_35  dX7_when_19 ?_
  obtain ⟨y3, hh3, h⟩ := obd_some h
  refine h_cVv [.inr (.inr (3, (P 7 0 0 2), 0)), .inr (.inr (0, 0, 0))] (m_X1_load (by decide) (by omega) (by decide) hh3) cw_X7_247 dX7_when_22 rfl (ok_1 (by decide)) (by decide) rfl (Or.inr rfl) rfl ?_
  refine h_iconst (-1 : Int32) dX7_when_25 k_iconst_m1 ?_
  refine h_istore_n dX7_when_26 (by decide) rfl ?_
  refine h_iconst (-1 : Int32) dX7_when_27 k_iconst_m1 ?_
  refine h_istore dX7_when_28 (by decide) rfl ?_
  refine h_iconst (0 : Int32) dX7_when_30 k_iconst_0 ?_
  refine h_istore dX7_when_31 (by decide) rfl ?_
  exact (b_X7_when_33 X Q FU  h E)
theorem bx_X7_when (X : CX) (Q : State → Prop) {I : Mem} {P : PMem} {O : Nat → Int64} {D : Bool} {n : Nat} {v1 : Int32} {v2 : Int32} {r : Nat}  (h : f_X7_when I P v1 v2 = some (Sum.inr r)) (E : EndX X cX7_when RX7 7 (some .int) 9 (n + 1) r I P O D Q) : Here X cX7_when RX7 7 (some .int) 9 (n + 1) 0 [some (.inr (.inr (7, 0, 0))), some (.inl v1), some (.inl v2), none, none, none, none] [] I P O D n Q := by
  unfold f_X7_when at h
  refine h_aload_n dX7_when_0 rfl ?_
  refine h_iload_n dX7_when_1 rfl ?_
  rcases thb_X h with hh1 | ⟨y1, hh1, h⟩
  · exact h_callVX (as := [.inl v1]) (mx_X7_requireJudge  hh1) cw_X7_163 dX7_when_2 rfl ok_7 (by decide) rfl rfl E
  refine h_cVv [.inl v1] (m_X7_requireJudge  hh1) cw_X7_163 dX7_when_2 rfl ok_7 (by decide) rfl (Or.inr rfl) rfl ?_
  refine h_iload_n dX7_when_5 rfl ?_
  refine h_iconst (1 : Int32) dX7_when_6 k_iconst_1 ?_
  rcases thb_X h with hh2 | ⟨y2, hh2, h⟩
  · exact h_callSX (as := [.inl v2, .inl (1 : Int32)]) (mx_X7_requireWhat  hh2) cs_X7_152 dX7_when_7 rfl (by decide) rfl rfl E
  refine h_cSv [.inl v2, .inl (1 : Int32)] (m_X7_requireWhat  hh2) cs_X7_152 dX7_when_7 rfl (by decide) rfl (Or.inr rfl) rfl ?_
  refine h_aload_n dX7_when_10 rfl ?_
  refine g_X7_51  dX7_when_11 ?_
  refine h_aload_n dX7_when_14 rfl ?_
  refine g_X7_16  dX7_when_15 ?_
  obtain ⟨g1, h⟩ := gd_some h
  have w1 := of_decide_eq_true g1
  refine h_aload_n dX7_when_18 rfl ?_
  refine g_X7_35  dX7_when_19 ?_
  obtain ⟨y3, hh3, h⟩ := obd_some h
  refine h_cVv [.inr (.inr (3, (P 7 0 0 2), 0)), .inr (.inr (0, 0, 0))] (m_X1_load (by decide) (by omega) (by decide) hh3) cw_X7_247 dX7_when_22 rfl (ok_1 (by decide)) (by decide) rfl (Or.inr rfl) rfl ?_
  refine h_iconst (-1 : Int32) dX7_when_25 k_iconst_m1 ?_
  refine h_istore_n dX7_when_26 (by decide) rfl ?_
  refine h_iconst (-1 : Int32) dX7_when_27 k_iconst_m1 ?_
  refine h_istore dX7_when_28 (by decide) rfl ?_
  refine h_iconst (0 : Int32) dX7_when_30 k_iconst_0 ?_
  refine h_istore dX7_when_31 (by decide) rfl ?_
  exact (bx_X7_when_33 X Q FU  h E)
theorem m_X7_when {I : Mem} {P : PMem} {O : Nat → Int64} {D : Bool} {n : Nat} {v1 : Int32} {v2 : Int32} {r : (Int32 × Mem × PMem)}  (h : f_X7_when I P v1 v2 = some (Sum.inl r)) : MethR yX7_when cX7_when 7 (some .int) 9 [.inr (.inr (7, 0, 0)), .inl v1, .inl v2] I P O D n (some (.inl r.1)) r.2.1 r.2.2 O D n := meth_R (Nat.le_refl _) (by decide) rfl (Nat.le_of_ble_eq_true rfl) rfl (fun X Q E => b_X7_when X Q  h E)
theorem mx_X7_when {I : Mem} {P : PMem} {O : Nat → Int64} {D : Bool} {n : Nat} {v1 : Int32} {v2 : Int32} {r : Nat}  (h : f_X7_when I P v1 v2 = some (Sum.inr r)) : MethX yX7_when cX7_when 7 (some .int) 9 [.inr (.inr (7, 0, 0)), .inl v1, .inl v2] I P O D n r I P O D (n + 1) := meth_X (Nat.le_succ _) (by decide) rfl (Nat.le_of_ble_eq_true rfl) rfl (fun X Q E => bx_X7_when X Q  h E)
def f_X7_round   (I : Mem) (P : PMem) (v1 : Int32) : Option ((Int32 × Mem × PMem) ⊕ Nat) :=
  thb (f_X7_requireJudge I P v1) fun y1 =>
  gd (decide ((P 7 0 0 2) < 2)) <|
  (f_X1_load 1 (P 7 0 0 2) 0 I P).bind fun y2 =>
  gd (inb v1 5) <|
  (f_X1_sendOut y2.2 1 y2.1 v1 (y2.1 9 0 0 v1.toNatClampNeg) (1 : Int32)).bind fun y3 =>
  (f_X1_settle y2.2 1 y3).bind fun y4 =>
  (f_X1_howManyGuilty y4 y2.2 1).bind fun y5 =>
  (f_X7_settledCourt y4 y2.2).bind fun y6 =>
  (f_X1_howManyGuilty y6.1 y6.2 0).bind fun y7 =>
  some (Sum.inl ((y5 - y7), y6.1, y6.2))
theorem b_X7_round (X : CX) (Q : State → Prop) {I : Mem} {P : PMem} {O : Nat → Int64} {D : Bool} {n : Nat} {v1 : Int32} {r : (Int32 × Mem × PMem)}  (h : f_X7_round I P v1 = some (Sum.inl r)) (E : EndR X cX7_round RX7 2 (some .int) 9 n (some (.inl r.1)) r.2.1 r.2.2 O D Q) : Here X cX7_round RX7 2 (some .int) 9 n 0 [some (.inr (.inr (7, 0, 0))), some (.inl v1)] [] I P O D n Q := by
  unfold f_X7_round at h
  refine h_aload_n dX7_round_0 rfl ?_
  refine h_iload_n dX7_round_1 rfl ?_
  obtain ⟨y1, hh1, h⟩ := thb_R h
  refine h_cVv [.inl v1] (m_X7_requireJudge  hh1) cw_X7_163 dX7_round_2 rfl ok_7 (by decide) rfl (Or.inr rfl) rfl ?_
  refine h_aload_n dX7_round_5 rfl ?_
  refine g_X7_51  dX7_round_6 ?_
  refine h_aload_n dX7_round_9 rfl ?_
  refine g_X7_16  dX7_round_10 ?_
  obtain ⟨g1, h⟩ := gd_some h
  have w1 := of_decide_eq_true g1
  refine h_aload_n dX7_round_13 rfl ?_
  refine g_X7_35  dX7_round_14 ?_
  obtain ⟨y2, hh2, h⟩ := obd_some h
  refine h_cVv [.inr (.inr (3, (P 7 0 0 2), 0)), .inr (.inr (0, 0, 0))] (m_X1_load (by decide) (by omega) (by decide) hh2) cw_X7_247 dX7_round_17 rfl (ok_1 (by decide)) (by decide) rfl (Or.inr rfl) rfl ?_
  refine h_aload_n dX7_round_20 rfl ?_
  refine g_X7_51  dX7_round_21 ?_
  refine h_iload_n dX7_round_24 rfl ?_
  refine h_aload_n dX7_round_25 rfl ?_
  refine g_X7_35  dX7_round_26 ?_
  refine g_X7_169 (by decide) dX7_round_29 ?_
  refine h_iload_n dX7_round_32 rfl ?_
  obtain ⟨g2, h⟩ := gd_some h
  refine al_9 (by decide) v1.toNatClampNeg rfl dX7_round_33 g2 ?_
  refine h_iconst (1 : Int32) dX7_round_34 k_iconst_1 ?_
  obtain ⟨y3, hh3, h⟩ := obd_some h
  refine h_cVv [.inl v1, .inl (y2.1 9 0 0 v1.toNatClampNeg), .inl (1 : Int32)] (m_X1_sendOut (by decide) hh3) cw_X7_259 dX7_round_35 rfl (ok_1 (by decide)) (by decide) rfl (Or.inr rfl) rfl ?_
  refine h_aload_n dX7_round_38 rfl ?_
  refine g_X7_51  dX7_round_39 ?_
  obtain ⟨y4, hh4, h⟩ := obd_some h
  refine h_cVv [] (m_X1_settle (by decide) hh4) cw_X7_263 dX7_round_42 rfl (ok_1 (by decide)) (by decide) rfl (Or.inr rfl) rfl ?_
  refine h_aload_n dX7_round_45 rfl ?_
  refine g_X7_51  dX7_round_46 ?_
  obtain ⟨y5, hh5, h⟩ := obd_some h
  refine h_cVi [] (m_X1_howManyGuilty (by decide) hh5) cw_X7_135 dX7_round_49 rfl (ok_1 (by decide)) (by decide) rfl (Or.inr rfl) rfl ?_
  refine h_aload_n dX7_round_52 rfl ?_
  obtain ⟨y6, hh6, h⟩ := obd_some h
  refine h_cVa [] (m_X7_settledCourt  hh6) cw_X7_131 dX7_round_53 rfl ok_7 (by decide) rfl (Or.inr rfl) rfl ?_
  obtain ⟨y7, hh7, h⟩ := obd_some h
  refine h_cVi [] (m_X1_howManyGuilty (by decide) hh7) cw_X7_135 dX7_round_56 rfl (ok_1 (by decide)) (by decide) rfl (Or.inr rfl) rfl ?_
  refine h_isub dX7_round_59 ?_
  cases h
  exact h_iret dX7_round_60 rfl E
theorem bx_X7_round (X : CX) (Q : State → Prop) {I : Mem} {P : PMem} {O : Nat → Int64} {D : Bool} {n : Nat} {v1 : Int32} {r : Nat}  (h : f_X7_round I P v1 = some (Sum.inr r)) (E : EndX X cX7_round RX7 2 (some .int) 9 (n + 1) r I P O D Q) : Here X cX7_round RX7 2 (some .int) 9 (n + 1) 0 [some (.inr (.inr (7, 0, 0))), some (.inl v1)] [] I P O D n Q := by
  unfold f_X7_round at h
  refine h_aload_n dX7_round_0 rfl ?_
  refine h_iload_n dX7_round_1 rfl ?_
  rcases thb_X h with hh1 | ⟨y1, hh1, h⟩
  · exact h_callVX (as := [.inl v1]) (mx_X7_requireJudge  hh1) cw_X7_163 dX7_round_2 rfl ok_7 (by decide) rfl rfl E
  refine h_cVv [.inl v1] (m_X7_requireJudge  hh1) cw_X7_163 dX7_round_2 rfl ok_7 (by decide) rfl (Or.inr rfl) rfl ?_
  refine h_aload_n dX7_round_5 rfl ?_
  refine g_X7_51  dX7_round_6 ?_
  refine h_aload_n dX7_round_9 rfl ?_
  refine g_X7_16  dX7_round_10 ?_
  obtain ⟨g1, h⟩ := gd_some h
  have w1 := of_decide_eq_true g1
  refine h_aload_n dX7_round_13 rfl ?_
  refine g_X7_35  dX7_round_14 ?_
  obtain ⟨y2, hh2, h⟩ := obd_some h
  refine h_cVv [.inr (.inr (3, (P 7 0 0 2), 0)), .inr (.inr (0, 0, 0))] (m_X1_load (by decide) (by omega) (by decide) hh2) cw_X7_247 dX7_round_17 rfl (ok_1 (by decide)) (by decide) rfl (Or.inr rfl) rfl ?_
  refine h_aload_n dX7_round_20 rfl ?_
  refine g_X7_51  dX7_round_21 ?_
  refine h_iload_n dX7_round_24 rfl ?_
  refine h_aload_n dX7_round_25 rfl ?_
  refine g_X7_35  dX7_round_26 ?_
  refine g_X7_169 (by decide) dX7_round_29 ?_
  refine h_iload_n dX7_round_32 rfl ?_
  obtain ⟨g2, h⟩ := gd_some h
  refine al_9 (by decide) v1.toNatClampNeg rfl dX7_round_33 g2 ?_
  refine h_iconst (1 : Int32) dX7_round_34 k_iconst_1 ?_
  obtain ⟨y3, hh3, h⟩ := obd_some h
  refine h_cVv [.inl v1, .inl (y2.1 9 0 0 v1.toNatClampNeg), .inl (1 : Int32)] (m_X1_sendOut (by decide) hh3) cw_X7_259 dX7_round_35 rfl (ok_1 (by decide)) (by decide) rfl (Or.inr rfl) rfl ?_
  refine h_aload_n dX7_round_38 rfl ?_
  refine g_X7_51  dX7_round_39 ?_
  obtain ⟨y4, hh4, h⟩ := obd_some h
  refine h_cVv [] (m_X1_settle (by decide) hh4) cw_X7_263 dX7_round_42 rfl (ok_1 (by decide)) (by decide) rfl (Or.inr rfl) rfl ?_
  refine h_aload_n dX7_round_45 rfl ?_
  refine g_X7_51  dX7_round_46 ?_
  obtain ⟨y5, hh5, h⟩ := obd_some h
  refine h_cVi [] (m_X1_howManyGuilty (by decide) hh5) cw_X7_135 dX7_round_49 rfl (ok_1 (by decide)) (by decide) rfl (Or.inr rfl) rfl ?_
  refine h_aload_n dX7_round_52 rfl ?_
  obtain ⟨y6, hh6, h⟩ := obd_some h
  refine h_cVa [] (m_X7_settledCourt  hh6) cw_X7_131 dX7_round_53 rfl ok_7 (by decide) rfl (Or.inr rfl) rfl ?_
  obtain ⟨y7, hh7, h⟩ := obd_some h
  refine h_cVi [] (m_X1_howManyGuilty (by decide) hh7) cw_X7_135 dX7_round_56 rfl (ok_1 (by decide)) (by decide) rfl (Or.inr rfl) rfl ?_
  refine h_isub dX7_round_59 ?_
  cases h
theorem m_X7_round {I : Mem} {P : PMem} {O : Nat → Int64} {D : Bool} {n : Nat} {v1 : Int32} {r : (Int32 × Mem × PMem)}  (h : f_X7_round I P v1 = some (Sum.inl r)) : MethR yX7_round cX7_round 2 (some .int) 9 [.inr (.inr (7, 0, 0)), .inl v1] I P O D n (some (.inl r.1)) r.2.1 r.2.2 O D n := meth_R (Nat.le_refl _) (by decide) rfl (Nat.le_of_ble_eq_true rfl) rfl (fun X Q E => b_X7_round X Q  h E)
theorem mx_X7_round {I : Mem} {P : PMem} {O : Nat → Int64} {D : Bool} {n : Nat} {v1 : Int32} {r : Nat}  (h : f_X7_round I P v1 = some (Sum.inr r)) : MethX yX7_round cX7_round 2 (some .int) 9 [.inr (.inr (7, 0, 0)), .inl v1] I P O D n r I P O D (n + 1) := meth_X (Nat.le_succ _) (by decide) rfl (Nat.le_of_ble_eq_true rfl) rfl (fun X Q E => bx_X7_round X Q  h E)
def f_X7_free_40 (k30 : Mem → PMem → Int32 → Int32 → Int32 → Option ((Int32 × Mem × PMem) ⊕ Nat))  : Nat → Mem → PMem → Int32 → Int32 → Int32 → Int32 → Option ((Int32 × Mem × PMem) ⊕ Nat)
  | 0, _, _, _, _, _, _ => none
  | fu + 1, I, P, v1, v2, v4, v5 =>
    gd (decide ((P 7 0 0 2) < 2)) <|
    if (I 3 (P 7 0 0 2) 0 0) ≤ v5 then (k30 I P v1 v2 (v4 + (1 : Int32))) else ((f_X1_reachedByWord I P 0 v1 v5 v4).bind fun y1 =>
    (f_X1_trioWith I P 0 v1 y1 (I 1 0 0 2)).bind fun y2 =>
    if y2 = 0 then (if v2 = 0 then (some (Sum.inl (v4, I, P))) else (some (Sum.inl (v5, I, P)))) else ((f_X7_free_40 k30 fu) I P v1 v2 v4 (v5 + (1 : Int32))))
theorem b_X7_free_40 (X : CX) (Q : State → Prop) {O : Nat → Int64} {D : Bool} {n : Nat} {k30 : Mem → PMem → Int32 → Int32 → Int32 → Option ((Int32 × Mem × PMem) ⊕ Nat)} {r : (Int32 × Mem × PMem)}  (H30 : ∀ (I : Mem) (P : PMem) (v1 : Int32) (v2 : Int32) (v4 : Int32), k30 I P v1 v2 v4 = some (Sum.inl r) → Here X cX7_free RX7 6 (some .int) 9 n 30 [some (.inr (.inr (7, 0, 0))), some (.inl v1), some (.inl v2), some (.inr (.inr (1, 0, 0))), some (.inl v4), none] [] I P O D n Q) : ∀ (fu : Nat) {I : Mem} {P : PMem} {v1 : Int32} {v2 : Int32} {v4 : Int32} {v5 : Int32}, f_X7_free_40 k30 fu I P v1 v2 v4 v5 = some (Sum.inl r) → EndR X cX7_free RX7 6 (some .int) 9 n (some (.inl r.1)) r.2.1 r.2.2 O D Q → Here X cX7_free RX7 6 (some .int) 9 n 40 [some (.inr (.inr (7, 0, 0))), some (.inl v1), some (.inl v2), some (.inr (.inr (1, 0, 0))), some (.inl v4), some (.inl v5)] [] I P O D n Q := by
  intro fu
  induction fu with
  | zero => intro I P v1 v2 v4 v5 h E; cases h
  | succ fu ih =>
  intro I P v1 v2 v4 v5 h E
  have H40 : ∀ (I : Mem) (P : PMem) (v1 : Int32) (v2 : Int32) (v4 : Int32) (v5 : Int32), f_X7_free_40 k30 fu I P v1 v2 v4 v5 = some (Sum.inl r) → Here X cX7_free RX7 6 (some .int) 9 n 40 [some (.inr (.inr (7, 0, 0))), some (.inl v1), some (.inl v2), some (.inr (.inr (1, 0, 0))), some (.inl v4), some (.inl v5)] [] I P O D n Q := fun _ _ _ _ _ _ b => ih b E
  simp only [f_X7_free_40] at h
  refine h_iload dX7_free_40 rfl ?_
  refine h_aload_n dX7_free_42 rfl ?_
  refine g_X7_16  dX7_free_43 ?_
  obtain ⟨g1, h⟩ := gd_some h
  have w1 := of_decide_eq_true g1
  refine g_X7_97 (by omega) dX7_free_46 ?_
  refine h_icmp_ge (tgt := 91) dX7_free_49 (by decide) (fun q1 => ?_) (fun q1 => ?_)
  · rw [if_pos q1] at h
    refine h_iinc (1 : Int32) dX7_free_91 rfl k_iinc_1 (by decide) rfl ?_
    refine h_goto (tgt := 30) dX7_free_94 (by decide) ?_
    exact h_mask [true, true, true, true, true, false] (H30 _ _ _ _ _ h)
  · rw [if_neg q1] at h
    refine h_aload_n dX7_free_52 rfl ?_
    refine h_iload_n dX7_free_53 rfl ?_
    refine h_aload_n dX7_free_54 rfl ?_
    refine h_iload_n dX7_free_55 rfl ?_
    refine h_iload dX7_free_56 rfl ?_
    refine h_iload dX7_free_58 rfl ?_
    obtain ⟨y1, hh1, h⟩ := obd_some h
    refine h_cVi [.inl v1, .inl v5, .inl v4] (m_X1_reachedByWord (by decide) hh1) cw_X7_266 dX7_free_60 rfl (ok_1 (by decide)) (by decide) rfl (Or.inr rfl) rfl ?_
    refine h_aload_n dX7_free_63 rfl ?_
    refine g_X7_270 (by decide) dX7_free_64 ?_
    obtain ⟨y2, hh2, h⟩ := obd_some h
    refine h_cVi [.inl v1, .inl y1, .inl (I 1 0 0 2)] (m_X1_trioWith (by decide) hh2) cw_X7_273 dX7_free_67 rfl (ok_1 (by decide)) (by decide) rfl (Or.inr rfl) rfl ?_
    refine h_if_ne (tgt := 85) dX7_free_70 (by decide) (fun q2 => ?_) (fun q2 => ?_)
    · rw [if_neg q2] at h
      refine h_iinc (1 : Int32) dX7_free_85 rfl k_iinc_1 (by decide) rfl ?_
      refine h_goto (tgt := 40) dX7_free_88 (by decide) ?_
      exact (H40 _ _ _ _ _ _ h)
    · rw [if_pos q2] at h
      refine h_iload_n dX7_free_73 rfl ?_
      refine h_if_ne (tgt := 82) dX7_free_74 (by decide) (fun q3 => ?_) (fun q3 => ?_)
      · rw [if_neg q3] at h
        refine h_iload dX7_free_82 rfl ?_
        cases h
        exact h_iret dX7_free_84 rfl E
      · rw [if_pos q3] at h
        refine h_iload dX7_free_77 rfl ?_
        refine h_goto (tgt := 84) dX7_free_79 (by decide) ?_
        cases h
        exact h_iret dX7_free_84 rfl E
theorem bx_X7_free_40 (X : CX) (Q : State → Prop) {O : Nat → Int64} {I0 : Mem} {P0 : PMem} {D : Bool} {n : Nat} {k30 : Mem → PMem → Int32 → Int32 → Int32 → Option ((Int32 × Mem × PMem) ⊕ Nat)} {r : Nat}  (H30 : ∀ (I : Mem) (P : PMem) (v1 : Int32) (v2 : Int32) (v4 : Int32), k30 I P v1 v2 v4 = some (Sum.inr r) → Here X cX7_free RX7 6 (some .int) 9 (n + 1) 30 [some (.inr (.inr (7, 0, 0))), some (.inl v1), some (.inl v2), some (.inr (.inr (1, 0, 0))), some (.inl v4), none] [] I P O D n Q) : ∀ (fu : Nat) {I : Mem} {P : PMem} {v1 : Int32} {v2 : Int32} {v4 : Int32} {v5 : Int32}, f_X7_free_40 k30 fu I P v1 v2 v4 v5 = some (Sum.inr r) → EndX X cX7_free RX7 6 (some .int) 9 (n + 1) r I0 P0 O D Q → Here X cX7_free RX7 6 (some .int) 9 (n + 1) 40 [some (.inr (.inr (7, 0, 0))), some (.inl v1), some (.inl v2), some (.inr (.inr (1, 0, 0))), some (.inl v4), some (.inl v5)] [] I P O D n Q := by
  intro fu
  induction fu with
  | zero => intro I P v1 v2 v4 v5 h E; cases h
  | succ fu ih =>
  intro I P v1 v2 v4 v5 h E
  have H40 : ∀ (I : Mem) (P : PMem) (v1 : Int32) (v2 : Int32) (v4 : Int32) (v5 : Int32), f_X7_free_40 k30 fu I P v1 v2 v4 v5 = some (Sum.inr r) → Here X cX7_free RX7 6 (some .int) 9 (n + 1) 40 [some (.inr (.inr (7, 0, 0))), some (.inl v1), some (.inl v2), some (.inr (.inr (1, 0, 0))), some (.inl v4), some (.inl v5)] [] I P O D n Q := fun _ _ _ _ _ _ b => ih b E
  simp only [f_X7_free_40] at h
  refine h_iload dX7_free_40 rfl ?_
  refine h_aload_n dX7_free_42 rfl ?_
  refine g_X7_16  dX7_free_43 ?_
  obtain ⟨g1, h⟩ := gd_some h
  have w1 := of_decide_eq_true g1
  refine g_X7_97 (by omega) dX7_free_46 ?_
  refine h_icmp_ge (tgt := 91) dX7_free_49 (by decide) (fun q1 => ?_) (fun q1 => ?_)
  · rw [if_pos q1] at h
    refine h_iinc (1 : Int32) dX7_free_91 rfl k_iinc_1 (by decide) rfl ?_
    refine h_goto (tgt := 30) dX7_free_94 (by decide) ?_
    exact h_mask [true, true, true, true, true, false] (H30 _ _ _ _ _ h)
  · rw [if_neg q1] at h
    refine h_aload_n dX7_free_52 rfl ?_
    refine h_iload_n dX7_free_53 rfl ?_
    refine h_aload_n dX7_free_54 rfl ?_
    refine h_iload_n dX7_free_55 rfl ?_
    refine h_iload dX7_free_56 rfl ?_
    refine h_iload dX7_free_58 rfl ?_
    obtain ⟨y1, hh1, h⟩ := obd_some h
    refine h_cVi [.inl v1, .inl v5, .inl v4] (m_X1_reachedByWord (by decide) hh1) cw_X7_266 dX7_free_60 rfl (ok_1 (by decide)) (by decide) rfl (Or.inr rfl) rfl ?_
    refine h_aload_n dX7_free_63 rfl ?_
    refine g_X7_270 (by decide) dX7_free_64 ?_
    obtain ⟨y2, hh2, h⟩ := obd_some h
    refine h_cVi [.inl v1, .inl y1, .inl (I 1 0 0 2)] (m_X1_trioWith (by decide) hh2) cw_X7_273 dX7_free_67 rfl (ok_1 (by decide)) (by decide) rfl (Or.inr rfl) rfl ?_
    refine h_if_ne (tgt := 85) dX7_free_70 (by decide) (fun q2 => ?_) (fun q2 => ?_)
    · rw [if_neg q2] at h
      refine h_iinc (1 : Int32) dX7_free_85 rfl k_iinc_1 (by decide) rfl ?_
      refine h_goto (tgt := 40) dX7_free_88 (by decide) ?_
      exact (H40 _ _ _ _ _ _ h)
    · rw [if_pos q2] at h
      refine h_iload_n dX7_free_73 rfl ?_
      refine h_if_ne (tgt := 82) dX7_free_74 (by decide) (fun q3 => ?_) (fun q3 => ?_)
      · rw [if_neg q3] at h
        refine h_iload dX7_free_82 rfl ?_
        cases h
      · rw [if_pos q3] at h
        refine h_iload dX7_free_77 rfl ?_
        refine h_goto (tgt := 84) dX7_free_79 (by decide) ?_
        cases h
def f_X7_free_30   : Nat → Mem → PMem → Int32 → Int32 → Int32 → Option ((Int32 × Mem × PMem) ⊕ Nat)
  | 0, _, _, _, _, _ => none
  | fu + 1, I, P, v1, v2, v4 =>
    if (60 : Int32) < v4 then (some (Sum.inl ((-1 : Int32), I, P))) else (f_X7_free_40 (f_X7_free_30 fu) FU I P v1 v2 v4 (0 : Int32))
theorem b_X7_free_30 (X : CX) (Q : State → Prop) {O : Nat → Int64} {D : Bool} {n : Nat} {r : (Int32 × Mem × PMem)}  : ∀ (fu : Nat) {I : Mem} {P : PMem} {v1 : Int32} {v2 : Int32} {v4 : Int32}, f_X7_free_30 fu I P v1 v2 v4 = some (Sum.inl r) → EndR X cX7_free RX7 6 (some .int) 9 n (some (.inl r.1)) r.2.1 r.2.2 O D Q → Here X cX7_free RX7 6 (some .int) 9 n 30 [some (.inr (.inr (7, 0, 0))), some (.inl v1), some (.inl v2), some (.inr (.inr (1, 0, 0))), some (.inl v4), none] [] I P O D n Q := by
  intro fu
  induction fu with
  | zero => intro I P v1 v2 v4 h E; cases h
  | succ fu ih =>
  intro I P v1 v2 v4 h E
  have H30 : ∀ (I : Mem) (P : PMem) (v1 : Int32) (v2 : Int32) (v4 : Int32), f_X7_free_30 fu I P v1 v2 v4 = some (Sum.inl r) → Here X cX7_free RX7 6 (some .int) 9 n 30 [some (.inr (.inr (7, 0, 0))), some (.inl v1), some (.inl v2), some (.inr (.inr (1, 0, 0))), some (.inl v4), none] [] I P O D n Q := fun _ _ _ _ _ b => ih b E
  simp only [f_X7_free_30] at h
  refine h_iload dX7_free_30 rfl ?_
  refine h_bipush (60 : Int32) dX7_free_32 k_bipush_60 ?_
  refine h_icmp_gt (tgt := 97) dX7_free_34 (by decide) (fun q1 => ?_) (fun q1 => ?_)
  · rw [if_pos q1] at h
    refine h_iconst (-1 : Int32) dX7_free_97 k_iconst_m1 ?_
    cases h
    exact h_iret dX7_free_98 rfl E
  · rw [if_neg q1] at h
    refine h_iconst (0 : Int32) dX7_free_37 k_iconst_0 ?_
    refine h_istore dX7_free_38 (by decide) rfl ?_
    exact (b_X7_free_40 X Q H30 FU  h E)
theorem bx_X7_free_30 (X : CX) (Q : State → Prop) {O : Nat → Int64} {I0 : Mem} {P0 : PMem} {D : Bool} {n : Nat} {r : Nat}  : ∀ (fu : Nat) {I : Mem} {P : PMem} {v1 : Int32} {v2 : Int32} {v4 : Int32}, f_X7_free_30 fu I P v1 v2 v4 = some (Sum.inr r) → EndX X cX7_free RX7 6 (some .int) 9 (n + 1) r I0 P0 O D Q → Here X cX7_free RX7 6 (some .int) 9 (n + 1) 30 [some (.inr (.inr (7, 0, 0))), some (.inl v1), some (.inl v2), some (.inr (.inr (1, 0, 0))), some (.inl v4), none] [] I P O D n Q := by
  intro fu
  induction fu with
  | zero => intro I P v1 v2 v4 h E; cases h
  | succ fu ih =>
  intro I P v1 v2 v4 h E
  have H30 : ∀ (I : Mem) (P : PMem) (v1 : Int32) (v2 : Int32) (v4 : Int32), f_X7_free_30 fu I P v1 v2 v4 = some (Sum.inr r) → Here X cX7_free RX7 6 (some .int) 9 (n + 1) 30 [some (.inr (.inr (7, 0, 0))), some (.inl v1), some (.inl v2), some (.inr (.inr (1, 0, 0))), some (.inl v4), none] [] I P O D n Q := fun _ _ _ _ _ b => ih b E
  simp only [f_X7_free_30] at h
  refine h_iload dX7_free_30 rfl ?_
  refine h_bipush (60 : Int32) dX7_free_32 k_bipush_60 ?_
  refine h_icmp_gt (tgt := 97) dX7_free_34 (by decide) (fun q1 => ?_) (fun q1 => ?_)
  · rw [if_pos q1] at h
    refine h_iconst (-1 : Int32) dX7_free_97 k_iconst_m1 ?_
    cases h
  · rw [if_neg q1] at h
    refine h_iconst (0 : Int32) dX7_free_37 k_iconst_0 ?_
    refine h_istore dX7_free_38 (by decide) rfl ?_
    exact (bx_X7_free_40 X Q H30 FU  h E)
def f_X7_free   (I : Mem) (P : PMem) (v1 : Int32) (v2 : Int32) : Option ((Int32 × Mem × PMem) ⊕ Nat) :=
  thb (f_X7_requireCase I P v1) fun y1 =>
  thb (f_X7_requireWhat I v2 (1 : Int32)) fun y2 =>
  (f_X7_settledCourt I P).bind fun y3 =>
  gd (inb v1 6) <|
  if (y3.1 24 0 0 v1.toNatClampNeg) = 0 then (some (Sum.inl ((-2 : Int32), y3.1, y3.2))) else (f_X7_free_30 FU y3.1 y3.2 v1 v2 (0 : Int32))
theorem b_X7_free (X : CX) (Q : State → Prop) {I : Mem} {P : PMem} {O : Nat → Int64} {D : Bool} {n : Nat} {v1 : Int32} {v2 : Int32} {r : (Int32 × Mem × PMem)}  (h : f_X7_free I P v1 v2 = some (Sum.inl r)) (E : EndR X cX7_free RX7 6 (some .int) 9 n (some (.inl r.1)) r.2.1 r.2.2 O D Q) : Here X cX7_free RX7 6 (some .int) 9 n 0 [some (.inr (.inr (7, 0, 0))), some (.inl v1), some (.inl v2), none, none, none] [] I P O D n Q := by
  unfold f_X7_free at h
  refine h_aload_n dX7_free_0 rfl ?_
  refine h_iload_n dX7_free_1 rfl ?_
  obtain ⟨y1, hh1, h⟩ := thb_R h
  refine h_cVv [.inl v1] (m_X7_requireCase  hh1) cw_X7_194 dX7_free_2 rfl ok_7 (by decide) rfl (Or.inr rfl) rfl ?_
  refine h_iload_n dX7_free_5 rfl ?_
  refine h_iconst (1 : Int32) dX7_free_6 k_iconst_1 ?_
  obtain ⟨y2, hh2, h⟩ := thb_R h
  refine h_cSv [.inl v2, .inl (1 : Int32)] (m_X7_requireWhat  hh2) cs_X7_152 dX7_free_7 rfl (by decide) rfl (Or.inr rfl) rfl ?_
  refine h_aload_n dX7_free_10 rfl ?_
  obtain ⟨y3, hh3, h⟩ := obd_some h
  refine h_cVa [] (m_X7_settledCourt  hh3) cw_X7_131 dX7_free_11 rfl ok_7 (by decide) rfl (Or.inr rfl) rfl ?_
  refine h_astore_n dX7_free_14 (by decide) rfl ?_
  refine h_aload_n dX7_free_15 rfl ?_
  refine g_X7_220 (by decide) dX7_free_16 ?_
  refine h_iload_n dX7_free_19 rfl ?_
  obtain ⟨g1, h⟩ := gd_some h
  refine al_24 (by decide) v1.toNatClampNeg rfl dX7_free_20 g1 ?_
  refine h_if_ne (tgt := 27) dX7_free_21 (by decide) (fun q1 => ?_) (fun q1 => ?_)
  · rw [if_neg q1] at h
    refine h_iconst (0 : Int32) dX7_free_27 k_iconst_0 ?_
    refine h_istore dX7_free_28 (by decide) rfl ?_
    exact (b_X7_free_30 X Q FU  h E)
  · rw [if_pos q1] at h
    refine h_bipush (-2 : Int32) dX7_free_24 k_bipush_m2 ?_
    cases h
    exact h_iret dX7_free_26 rfl E
theorem bx_X7_free (X : CX) (Q : State → Prop) {I : Mem} {P : PMem} {O : Nat → Int64} {D : Bool} {n : Nat} {v1 : Int32} {v2 : Int32} {r : Nat}  (h : f_X7_free I P v1 v2 = some (Sum.inr r)) (E : EndX X cX7_free RX7 6 (some .int) 9 (n + 1) r I P O D Q) : Here X cX7_free RX7 6 (some .int) 9 (n + 1) 0 [some (.inr (.inr (7, 0, 0))), some (.inl v1), some (.inl v2), none, none, none] [] I P O D n Q := by
  unfold f_X7_free at h
  refine h_aload_n dX7_free_0 rfl ?_
  refine h_iload_n dX7_free_1 rfl ?_
  rcases thb_X h with hh1 | ⟨y1, hh1, h⟩
  · exact h_callVX (as := [.inl v1]) (mx_X7_requireCase  hh1) cw_X7_194 dX7_free_2 rfl ok_7 (by decide) rfl rfl E
  refine h_cVv [.inl v1] (m_X7_requireCase  hh1) cw_X7_194 dX7_free_2 rfl ok_7 (by decide) rfl (Or.inr rfl) rfl ?_
  refine h_iload_n dX7_free_5 rfl ?_
  refine h_iconst (1 : Int32) dX7_free_6 k_iconst_1 ?_
  rcases thb_X h with hh2 | ⟨y2, hh2, h⟩
  · exact h_callSX (as := [.inl v2, .inl (1 : Int32)]) (mx_X7_requireWhat  hh2) cs_X7_152 dX7_free_7 rfl (by decide) rfl rfl E
  refine h_cSv [.inl v2, .inl (1 : Int32)] (m_X7_requireWhat  hh2) cs_X7_152 dX7_free_7 rfl (by decide) rfl (Or.inr rfl) rfl ?_
  refine h_aload_n dX7_free_10 rfl ?_
  obtain ⟨y3, hh3, h⟩ := obd_some h
  refine h_cVa [] (m_X7_settledCourt  hh3) cw_X7_131 dX7_free_11 rfl ok_7 (by decide) rfl (Or.inr rfl) rfl ?_
  refine h_astore_n dX7_free_14 (by decide) rfl ?_
  refine h_aload_n dX7_free_15 rfl ?_
  refine g_X7_220 (by decide) dX7_free_16 ?_
  refine h_iload_n dX7_free_19 rfl ?_
  obtain ⟨g1, h⟩ := gd_some h
  refine al_24 (by decide) v1.toNatClampNeg rfl dX7_free_20 g1 ?_
  refine h_if_ne (tgt := 27) dX7_free_21 (by decide) (fun q1 => ?_) (fun q1 => ?_)
  · rw [if_neg q1] at h
    refine h_iconst (0 : Int32) dX7_free_27 k_iconst_0 ?_
    refine h_istore dX7_free_28 (by decide) rfl ?_
    exact (bx_X7_free_30 X Q FU  h E)
  · rw [if_pos q1] at h
    refine h_bipush (-2 : Int32) dX7_free_24 k_bipush_m2 ?_
    cases h
theorem m_X7_free {I : Mem} {P : PMem} {O : Nat → Int64} {D : Bool} {n : Nat} {v1 : Int32} {v2 : Int32} {r : (Int32 × Mem × PMem)}  (h : f_X7_free I P v1 v2 = some (Sum.inl r)) : MethR yX7_free cX7_free 6 (some .int) 9 [.inr (.inr (7, 0, 0)), .inl v1, .inl v2] I P O D n (some (.inl r.1)) r.2.1 r.2.2 O D n := meth_R (Nat.le_refl _) (by decide) rfl (Nat.le_of_ble_eq_true rfl) rfl (fun X Q E => b_X7_free X Q  h E)
theorem mx_X7_free {I : Mem} {P : PMem} {O : Nat → Int64} {D : Bool} {n : Nat} {v1 : Int32} {v2 : Int32} {r : Nat}  (h : f_X7_free I P v1 v2 = some (Sum.inr r)) : MethX yX7_free cX7_free 6 (some .int) 9 [.inr (.inr (7, 0, 0)), .inl v1, .inl v2] I P O D n r I P O D (n + 1) := meth_X (Nat.le_succ _) (by decide) rfl (Nat.le_of_ble_eq_true rfl) rfl (fun X Q E => bx_X7_free X Q  h E)
def f_J6_bitCount_0f7a4  (I : Mem) (v0 : Int32) : Option (Int32) :=
  bnd (v0 - ((jushr v0 (1 : Int32)) &&& (1431655765 : Int32))) fun x1 =>
  bnd ((x1 &&& (858993459 : Int32)) + ((jushr x1 (2 : Int32)) &&& (858993459 : Int32))) fun x2 =>
  bnd ((x2 + (jushr x2 (4 : Int32))) &&& (252645135 : Int32)) fun x3 =>
  bnd (x3 + (jushr x3 (8 : Int32))) fun x4 =>
  bnd (x4 + (jushr x4 (16 : Int32))) fun x5 =>
  some (x5 &&& (63 : Int32))
theorem b_J6_bitCount_0f7a4 (X : CX) (Q : State → Prop) {I : Mem} {P : PMem} {O : Nat → Int64} {D : Bool} {n : Nat} {v0 : Int32} {r : (Int32)}  (h : f_J6_bitCount_0f7a4 I v0 = some r) (E : EndR X cJ6_bitCount_0f7a4 RJ6 1 (some .int) 2 n (some (.inl r)) I P O D Q) : Here X cJ6_bitCount_0f7a4 RJ6 1 (some .int) 2 n 0 [some (.inl v0)] [] I P O D n Q := by
  unfold f_J6_bitCount_0f7a4 at h
  refine h_iload_n dJ6_bitCount_0f7a4_0 rfl ?_
  refine h_iload_n dJ6_bitCount_0f7a4_1 rfl ?_
  refine h_iconst (1 : Int32) dJ6_bitCount_0f7a4_2 k_iconst_1 ?_
  refine h_ushr dJ6_bitCount_0f7a4_3 ?_
  refine h_ldcwi (1431655765 : Int32) dJ6_bitCount_0f7a4_4 kc_J6_265 ?_
  refine h_iand dJ6_bitCount_0f7a4_7 ?_
  refine h_isub dJ6_bitCount_0f7a4_8 ?_
  obtain ⟨x1, e1, h⟩ := bnd_some h
  refine h_nmv e1 ?_
  refine h_istore_n dJ6_bitCount_0f7a4_9 (by decide) rfl ?_
  refine h_iload_n dJ6_bitCount_0f7a4_10 rfl ?_
  refine h_ldcwi (858993459 : Int32) dJ6_bitCount_0f7a4_11 kc_J6_266 ?_
  refine h_iand dJ6_bitCount_0f7a4_14 ?_
  refine h_iload_n dJ6_bitCount_0f7a4_15 rfl ?_
  refine h_iconst (2 : Int32) dJ6_bitCount_0f7a4_16 k_iconst_2 ?_
  refine h_ushr dJ6_bitCount_0f7a4_17 ?_
  refine h_ldcwi (858993459 : Int32) dJ6_bitCount_0f7a4_18 kc_J6_266 ?_
  refine h_iand dJ6_bitCount_0f7a4_21 ?_
  refine h_iadd dJ6_bitCount_0f7a4_22 ?_
  obtain ⟨x2, e2, h⟩ := bnd_some h
  refine h_nmv e2 ?_
  refine h_istore_n dJ6_bitCount_0f7a4_23 (by decide) rfl ?_
  refine h_iload_n dJ6_bitCount_0f7a4_24 rfl ?_
  refine h_iload_n dJ6_bitCount_0f7a4_25 rfl ?_
  refine h_iconst (4 : Int32) dJ6_bitCount_0f7a4_26 k_iconst_4 ?_
  refine h_ushr dJ6_bitCount_0f7a4_27 ?_
  refine h_iadd dJ6_bitCount_0f7a4_28 ?_
  refine h_ldcwi (252645135 : Int32) dJ6_bitCount_0f7a4_29 kc_J6_267 ?_
  refine h_iand dJ6_bitCount_0f7a4_32 ?_
  obtain ⟨x3, e3, h⟩ := bnd_some h
  refine h_nmv e3 ?_
  refine h_istore_n dJ6_bitCount_0f7a4_33 (by decide) rfl ?_
  refine h_iload_n dJ6_bitCount_0f7a4_34 rfl ?_
  refine h_iload_n dJ6_bitCount_0f7a4_35 rfl ?_
  refine h_bipush (8 : Int32) dJ6_bitCount_0f7a4_36 k_bipush_8 ?_
  refine h_ushr dJ6_bitCount_0f7a4_38 ?_
  refine h_iadd dJ6_bitCount_0f7a4_39 ?_
  obtain ⟨x4, e4, h⟩ := bnd_some h
  refine h_nmv e4 ?_
  refine h_istore_n dJ6_bitCount_0f7a4_40 (by decide) rfl ?_
  refine h_iload_n dJ6_bitCount_0f7a4_41 rfl ?_
  refine h_iload_n dJ6_bitCount_0f7a4_42 rfl ?_
  refine h_bipush (16 : Int32) dJ6_bitCount_0f7a4_43 k_bipush_16 ?_
  refine h_ushr dJ6_bitCount_0f7a4_45 ?_
  refine h_iadd dJ6_bitCount_0f7a4_46 ?_
  obtain ⟨x5, e5, h⟩ := bnd_some h
  refine h_nmv e5 ?_
  refine h_istore_n dJ6_bitCount_0f7a4_47 (by decide) rfl ?_
  refine h_iload_n dJ6_bitCount_0f7a4_48 rfl ?_
  refine h_bipush (63 : Int32) dJ6_bitCount_0f7a4_49 k_bipush_63 ?_
  refine h_iand dJ6_bitCount_0f7a4_51 ?_
  cases h
  exact h_iret dJ6_bitCount_0f7a4_52 rfl E
theorem m_J6_bitCount_0f7a4 {I : Mem} {P : PMem} {O : Nat → Int64} {D : Bool} {n : Nat} {v0 : Int32} {r : (Int32)}  (h : f_J6_bitCount_0f7a4 I v0 = some r) : MethR yJ6_bitCount_0f7a4 cJ6_bitCount_0f7a4 1 (some .int) 2 [.inl v0] I P O D n (some (.inl r)) I P O D n := meth_R (Nat.le_refl _) (by decide) rfl (Nat.le_of_ble_eq_true rfl) rfl (fun X Q E => b_J6_bitCount_0f7a4 X Q  h E)
def f_X7_mercy_19   : Nat → Mem → PMem → Int32 → Int32 → Int32 → Int32 → Option ((Int32 × Mem × PMem) ⊕ Nat)
  | 0, _, _, _, _, _, _ => none
  | fu + 1, I, P, v1, v3, v4, v5 =>
    gd (decide ((P 7 0 0 2) < 2)) <|
    if (jshl (1 : Int32) (I 3 (P 7 0 0 2) 0 7)) ≤ v5 then (some (Sum.inl (v3, I, P))) else ((f_J6_bitCount_0f7a4 I v5).bind fun y1 =>
    if v4 ≤ y1 then ((f_X7_mercy_19 fu) I P v1 v3 v4 (v5 + (1 : Int32))) else (if (v5 &&& (I 1 0 0 2)) = 0 then ((f_X1_trioWith I P 0 v1 v5 (I 1 0 0 2)).bind fun y2 =>
    if y2 = 0 then ((f_X7_mercy_19 fu) I P v1 v5 y1 (v5 + (1 : Int32))) else ((f_X7_mercy_19 fu) I P v1 v3 v4 (v5 + (1 : Int32)))) else ((f_X7_mercy_19 fu) I P v1 v3 v4 (v5 + (1 : Int32)))))
theorem b_X7_mercy_19 (X : CX) (Q : State → Prop) {O : Nat → Int64} {D : Bool} {n : Nat} {r : (Int32 × Mem × PMem)}  : ∀ (fu : Nat) {I : Mem} {P : PMem} {v1 : Int32} {v3 : Int32} {v4 : Int32} {v5 : Int32}, f_X7_mercy_19 fu I P v1 v3 v4 v5 = some (Sum.inl r) → EndR X cX7_mercy RX7 7 (some .int) 9 n (some (.inl r.1)) r.2.1 r.2.2 O D Q → Here X cX7_mercy RX7 7 (some .int) 9 n 19 [some (.inr (.inr (7, 0, 0))), some (.inl v1), some (.inr (.inr (1, 0, 0))), some (.inl v3), some (.inl v4), some (.inl v5), none] [] I P O D n Q := by
  intro fu
  induction fu with
  | zero => intro I P v1 v3 v4 v5 h E; cases h
  | succ fu ih =>
  intro I P v1 v3 v4 v5 h E
  have H19 : ∀ (I : Mem) (P : PMem) (v1 : Int32) (v3 : Int32) (v4 : Int32) (v5 : Int32), f_X7_mercy_19 fu I P v1 v3 v4 v5 = some (Sum.inl r) → Here X cX7_mercy RX7 7 (some .int) 9 n 19 [some (.inr (.inr (7, 0, 0))), some (.inl v1), some (.inr (.inr (1, 0, 0))), some (.inl v3), some (.inl v4), some (.inl v5), none] [] I P O D n Q := fun _ _ _ _ _ _ b => ih b E
  simp only [f_X7_mercy_19] at h
  refine h_iload dX7_mercy_19 rfl ?_
  refine h_iconst (1 : Int32) dX7_mercy_21 k_iconst_1 ?_
  refine h_aload_n dX7_mercy_22 rfl ?_
  refine g_X7_16  dX7_mercy_23 ?_
  obtain ⟨g1, h⟩ := gd_some h
  have w1 := of_decide_eq_true g1
  refine g_X7_107 (by omega) dX7_mercy_26 ?_
  refine h_shl dX7_mercy_29 ?_
  refine h_icmp_ge (tgt := 84) dX7_mercy_30 (by decide) (fun q1 => ?_) (fun q1 => ?_)
  · rw [if_pos q1] at h
    refine h_iload_n dX7_mercy_84 rfl ?_
    cases h
    exact h_iret dX7_mercy_85 rfl E
  · rw [if_neg q1] at h
    refine h_iload dX7_mercy_33 rfl ?_
    obtain ⟨y1, hh1, h⟩ := obd_some h
    refine h_cSi [.inl v5] (m_J6_bitCount_0f7a4  hh1) cs_X7_276 dX7_mercy_35 rfl (by decide) rfl (Or.inr rfl) rfl ?_
    refine h_istore dX7_mercy_38 (by decide) rfl ?_
    refine h_iload dX7_mercy_40 rfl ?_
    refine h_iload dX7_mercy_42 rfl ?_
    refine h_icmp_ge (tgt := 78) dX7_mercy_44 (by decide) (fun q2 => ?_) (fun q2 => ?_)
    · rw [if_pos q2] at h
      refine h_iinc (1 : Int32) dX7_mercy_78 rfl k_iinc_1 (by decide) rfl ?_
      refine h_goto (tgt := 19) dX7_mercy_81 (by decide) ?_
      exact h_mask [true, true, true, true, true, true, false] (H19 _ _ _ _ _ _ h)
    · rw [if_neg q2] at h
      refine h_iload dX7_mercy_47 rfl ?_
      refine h_aload_n dX7_mercy_49 rfl ?_
      refine g_X7_270 (by decide) dX7_mercy_50 ?_
      refine h_iand dX7_mercy_53 ?_
      refine h_if_ne (tgt := 78) dX7_mercy_54 (by decide) (fun q3 => ?_) (fun q3 => ?_)
      · rw [if_neg q3] at h
        refine h_iinc (1 : Int32) dX7_mercy_78 rfl k_iinc_1 (by decide) rfl ?_
        refine h_goto (tgt := 19) dX7_mercy_81 (by decide) ?_
        exact h_mask [true, true, true, true, true, true, false] (H19 _ _ _ _ _ _ h)
      · rw [if_pos q3] at h
        refine h_aload_n dX7_mercy_57 rfl ?_
        refine h_iload_n dX7_mercy_58 rfl ?_
        refine h_iload dX7_mercy_59 rfl ?_
        refine h_aload_n dX7_mercy_61 rfl ?_
        refine g_X7_270 (by decide) dX7_mercy_62 ?_
        obtain ⟨y2, hh2, h⟩ := obd_some h
        refine h_cVi [.inl v1, .inl v5, .inl (I 1 0 0 2)] (m_X1_trioWith (by decide) hh2) cw_X7_273 dX7_mercy_65 rfl (ok_1 (by decide)) (by decide) rfl (Or.inr rfl) rfl ?_
        refine h_if_ne (tgt := 78) dX7_mercy_68 (by decide) (fun q4 => ?_) (fun q4 => ?_)
        · rw [if_neg q4] at h
          refine h_iinc (1 : Int32) dX7_mercy_78 rfl k_iinc_1 (by decide) rfl ?_
          refine h_goto (tgt := 19) dX7_mercy_81 (by decide) ?_
          exact h_mask [true, true, true, true, true, true, false] (H19 _ _ _ _ _ _ h)
        · rw [if_pos q4] at h
          refine h_iload dX7_mercy_71 rfl ?_
          refine h_istore_n dX7_mercy_73 (by decide) rfl ?_
          refine h_iload dX7_mercy_74 rfl ?_
          refine h_istore dX7_mercy_76 (by decide) rfl ?_
          refine h_iinc (1 : Int32) dX7_mercy_78 rfl k_iinc_1 (by decide) rfl ?_
          refine h_goto (tgt := 19) dX7_mercy_81 (by decide) ?_
          exact h_mask [true, true, true, true, true, true, false] (H19 _ _ _ _ _ _ h)
theorem bx_X7_mercy_19 (X : CX) (Q : State → Prop) {O : Nat → Int64} {I0 : Mem} {P0 : PMem} {D : Bool} {n : Nat} {r : Nat}  : ∀ (fu : Nat) {I : Mem} {P : PMem} {v1 : Int32} {v3 : Int32} {v4 : Int32} {v5 : Int32}, f_X7_mercy_19 fu I P v1 v3 v4 v5 = some (Sum.inr r) → EndX X cX7_mercy RX7 7 (some .int) 9 (n + 1) r I0 P0 O D Q → Here X cX7_mercy RX7 7 (some .int) 9 (n + 1) 19 [some (.inr (.inr (7, 0, 0))), some (.inl v1), some (.inr (.inr (1, 0, 0))), some (.inl v3), some (.inl v4), some (.inl v5), none] [] I P O D n Q := by
  intro fu
  induction fu with
  | zero => intro I P v1 v3 v4 v5 h E; cases h
  | succ fu ih =>
  intro I P v1 v3 v4 v5 h E
  have H19 : ∀ (I : Mem) (P : PMem) (v1 : Int32) (v3 : Int32) (v4 : Int32) (v5 : Int32), f_X7_mercy_19 fu I P v1 v3 v4 v5 = some (Sum.inr r) → Here X cX7_mercy RX7 7 (some .int) 9 (n + 1) 19 [some (.inr (.inr (7, 0, 0))), some (.inl v1), some (.inr (.inr (1, 0, 0))), some (.inl v3), some (.inl v4), some (.inl v5), none] [] I P O D n Q := fun _ _ _ _ _ _ b => ih b E
  simp only [f_X7_mercy_19] at h
  refine h_iload dX7_mercy_19 rfl ?_
  refine h_iconst (1 : Int32) dX7_mercy_21 k_iconst_1 ?_
  refine h_aload_n dX7_mercy_22 rfl ?_
  refine g_X7_16  dX7_mercy_23 ?_
  obtain ⟨g1, h⟩ := gd_some h
  have w1 := of_decide_eq_true g1
  refine g_X7_107 (by omega) dX7_mercy_26 ?_
  refine h_shl dX7_mercy_29 ?_
  refine h_icmp_ge (tgt := 84) dX7_mercy_30 (by decide) (fun q1 => ?_) (fun q1 => ?_)
  · rw [if_pos q1] at h
    refine h_iload_n dX7_mercy_84 rfl ?_
    cases h
  · rw [if_neg q1] at h
    refine h_iload dX7_mercy_33 rfl ?_
    obtain ⟨y1, hh1, h⟩ := obd_some h
    refine h_cSi [.inl v5] (m_J6_bitCount_0f7a4  hh1) cs_X7_276 dX7_mercy_35 rfl (by decide) rfl (Or.inr rfl) rfl ?_
    refine h_istore dX7_mercy_38 (by decide) rfl ?_
    refine h_iload dX7_mercy_40 rfl ?_
    refine h_iload dX7_mercy_42 rfl ?_
    refine h_icmp_ge (tgt := 78) dX7_mercy_44 (by decide) (fun q2 => ?_) (fun q2 => ?_)
    · rw [if_pos q2] at h
      refine h_iinc (1 : Int32) dX7_mercy_78 rfl k_iinc_1 (by decide) rfl ?_
      refine h_goto (tgt := 19) dX7_mercy_81 (by decide) ?_
      exact h_mask [true, true, true, true, true, true, false] (H19 _ _ _ _ _ _ h)
    · rw [if_neg q2] at h
      refine h_iload dX7_mercy_47 rfl ?_
      refine h_aload_n dX7_mercy_49 rfl ?_
      refine g_X7_270 (by decide) dX7_mercy_50 ?_
      refine h_iand dX7_mercy_53 ?_
      refine h_if_ne (tgt := 78) dX7_mercy_54 (by decide) (fun q3 => ?_) (fun q3 => ?_)
      · rw [if_neg q3] at h
        refine h_iinc (1 : Int32) dX7_mercy_78 rfl k_iinc_1 (by decide) rfl ?_
        refine h_goto (tgt := 19) dX7_mercy_81 (by decide) ?_
        exact h_mask [true, true, true, true, true, true, false] (H19 _ _ _ _ _ _ h)
      · rw [if_pos q3] at h
        refine h_aload_n dX7_mercy_57 rfl ?_
        refine h_iload_n dX7_mercy_58 rfl ?_
        refine h_iload dX7_mercy_59 rfl ?_
        refine h_aload_n dX7_mercy_61 rfl ?_
        refine g_X7_270 (by decide) dX7_mercy_62 ?_
        obtain ⟨y2, hh2, h⟩ := obd_some h
        refine h_cVi [.inl v1, .inl v5, .inl (I 1 0 0 2)] (m_X1_trioWith (by decide) hh2) cw_X7_273 dX7_mercy_65 rfl (ok_1 (by decide)) (by decide) rfl (Or.inr rfl) rfl ?_
        refine h_if_ne (tgt := 78) dX7_mercy_68 (by decide) (fun q4 => ?_) (fun q4 => ?_)
        · rw [if_neg q4] at h
          refine h_iinc (1 : Int32) dX7_mercy_78 rfl k_iinc_1 (by decide) rfl ?_
          refine h_goto (tgt := 19) dX7_mercy_81 (by decide) ?_
          exact h_mask [true, true, true, true, true, true, false] (H19 _ _ _ _ _ _ h)
        · rw [if_pos q4] at h
          refine h_iload dX7_mercy_71 rfl ?_
          refine h_istore_n dX7_mercy_73 (by decide) rfl ?_
          refine h_iload dX7_mercy_74 rfl ?_
          refine h_istore dX7_mercy_76 (by decide) rfl ?_
          refine h_iinc (1 : Int32) dX7_mercy_78 rfl k_iinc_1 (by decide) rfl ?_
          refine h_goto (tgt := 19) dX7_mercy_81 (by decide) ?_
          exact h_mask [true, true, true, true, true, true, false] (H19 _ _ _ _ _ _ h)
def f_X7_mercy   (I : Mem) (P : PMem) (v1 : Int32) : Option ((Int32 × Mem × PMem) ⊕ Nat) :=
  thb (f_X7_requireCase I P v1) fun y1 =>
  (f_X7_settledCourt I P).bind fun y2 =>
  f_X7_mercy_19 FU y2.1 y2.2 v1 (-1 : Int32) (6 : Int32) (0 : Int32)
theorem b_X7_mercy (X : CX) (Q : State → Prop) {I : Mem} {P : PMem} {O : Nat → Int64} {D : Bool} {n : Nat} {v1 : Int32} {r : (Int32 × Mem × PMem)}  (h : f_X7_mercy I P v1 = some (Sum.inl r)) (E : EndR X cX7_mercy RX7 7 (some .int) 9 n (some (.inl r.1)) r.2.1 r.2.2 O D Q) : Here X cX7_mercy RX7 7 (some .int) 9 n 0 [some (.inr (.inr (7, 0, 0))), some (.inl v1), none, none, none, none, none] [] I P O D n Q := by
  unfold f_X7_mercy at h
  refine h_aload_n dX7_mercy_0 rfl ?_
  refine h_iload_n dX7_mercy_1 rfl ?_
  obtain ⟨y1, hh1, h⟩ := thb_R h
  refine h_cVv [.inl v1] (m_X7_requireCase  hh1) cw_X7_194 dX7_mercy_2 rfl ok_7 (by decide) rfl (Or.inr rfl) rfl ?_
  refine h_aload_n dX7_mercy_5 rfl ?_
  obtain ⟨y2, hh2, h⟩ := obd_some h
  refine h_cVa [] (m_X7_settledCourt  hh2) cw_X7_131 dX7_mercy_6 rfl ok_7 (by decide) rfl (Or.inr rfl) rfl ?_
  refine h_astore_n dX7_mercy_9 (by decide) rfl ?_
  refine h_iconst (-1 : Int32) dX7_mercy_10 k_iconst_m1 ?_
  refine h_istore_n dX7_mercy_11 (by decide) rfl ?_
  refine h_bipush (6 : Int32) dX7_mercy_12 k_bipush_6 ?_
  refine h_istore dX7_mercy_14 (by decide) rfl ?_
  refine h_iconst (0 : Int32) dX7_mercy_16 k_iconst_0 ?_
  refine h_istore dX7_mercy_17 (by decide) rfl ?_
  exact (b_X7_mercy_19 X Q FU  h E)
theorem bx_X7_mercy (X : CX) (Q : State → Prop) {I : Mem} {P : PMem} {O : Nat → Int64} {D : Bool} {n : Nat} {v1 : Int32} {r : Nat}  (h : f_X7_mercy I P v1 = some (Sum.inr r)) (E : EndX X cX7_mercy RX7 7 (some .int) 9 (n + 1) r I P O D Q) : Here X cX7_mercy RX7 7 (some .int) 9 (n + 1) 0 [some (.inr (.inr (7, 0, 0))), some (.inl v1), none, none, none, none, none] [] I P O D n Q := by
  unfold f_X7_mercy at h
  refine h_aload_n dX7_mercy_0 rfl ?_
  refine h_iload_n dX7_mercy_1 rfl ?_
  rcases thb_X h with hh1 | ⟨y1, hh1, h⟩
  · exact h_callVX (as := [.inl v1]) (mx_X7_requireCase  hh1) cw_X7_194 dX7_mercy_2 rfl ok_7 (by decide) rfl rfl E
  refine h_cVv [.inl v1] (m_X7_requireCase  hh1) cw_X7_194 dX7_mercy_2 rfl ok_7 (by decide) rfl (Or.inr rfl) rfl ?_
  refine h_aload_n dX7_mercy_5 rfl ?_
  obtain ⟨y2, hh2, h⟩ := obd_some h
  refine h_cVa [] (m_X7_settledCourt  hh2) cw_X7_131 dX7_mercy_6 rfl ok_7 (by decide) rfl (Or.inr rfl) rfl ?_
  refine h_astore_n dX7_mercy_9 (by decide) rfl ?_
  refine h_iconst (-1 : Int32) dX7_mercy_10 k_iconst_m1 ?_
  refine h_istore_n dX7_mercy_11 (by decide) rfl ?_
  refine h_bipush (6 : Int32) dX7_mercy_12 k_bipush_6 ?_
  refine h_istore dX7_mercy_14 (by decide) rfl ?_
  refine h_iconst (0 : Int32) dX7_mercy_16 k_iconst_0 ?_
  refine h_istore dX7_mercy_17 (by decide) rfl ?_
  exact (bx_X7_mercy_19 X Q FU  h E)
theorem m_X7_mercy {I : Mem} {P : PMem} {O : Nat → Int64} {D : Bool} {n : Nat} {v1 : Int32} {r : (Int32 × Mem × PMem)}  (h : f_X7_mercy I P v1 = some (Sum.inl r)) : MethR yX7_mercy cX7_mercy 7 (some .int) 9 [.inr (.inr (7, 0, 0)), .inl v1] I P O D n (some (.inl r.1)) r.2.1 r.2.2 O D n := meth_R (Nat.le_refl _) (by decide) rfl (Nat.le_of_ble_eq_true rfl) rfl (fun X Q E => b_X7_mercy X Q  h E)
theorem mx_X7_mercy {I : Mem} {P : PMem} {O : Nat → Int64} {D : Bool} {n : Nat} {v1 : Int32} {r : Nat}  (h : f_X7_mercy I P v1 = some (Sum.inr r)) : MethX yX7_mercy cX7_mercy 7 (some .int) 9 [.inr (.inr (7, 0, 0)), .inl v1] I P O D n r I P O D (n + 1) := meth_X (Nat.le_succ _) (by decide) rfl (Nat.le_of_ble_eq_true rfl) rfl (fun X Q E => bx_X7_mercy X Q  h E)
def f_X7_deaf_15   : Nat → Mem → PMem → Int32 → Int32 → Int32 → Option ((Int32 × Mem × PMem) ⊕ Nat)
  | 0, _, _, _, _, _ => none
  | fu + 1, I, P, v1, v3, v4 =>
    gd (decide ((P 7 0 0 2) < 2)) <|
    if (I 3 (P 7 0 0 2) 0 13) ≤ v4 then (some (Sum.inl (v3, I, P))) else ((f_X1_trioWith I P 0 v4 (0 : Int32) ((I 1 0 0 2) ^^^ (jshl (1 : Int32) v1))).bind fun y1 =>
    if y1 = 0 then ((f_X7_deaf_15 fu) I P v1 v3 (v4 + (1 : Int32))) else ((f_X7_deaf_15 fu) I P v1 (v3 + (1 : Int32)) (v4 + (1 : Int32))))
theorem b_X7_deaf_15 (X : CX) (Q : State → Prop) {O : Nat → Int64} {D : Bool} {n : Nat} {r : (Int32 × Mem × PMem)}  : ∀ (fu : Nat) {I : Mem} {P : PMem} {v1 : Int32} {v3 : Int32} {v4 : Int32}, f_X7_deaf_15 fu I P v1 v3 v4 = some (Sum.inl r) → EndR X cX7_deaf RX7 5 (some .int) 9 n (some (.inl r.1)) r.2.1 r.2.2 O D Q → Here X cX7_deaf RX7 5 (some .int) 9 n 15 [some (.inr (.inr (7, 0, 0))), some (.inl v1), some (.inr (.inr (1, 0, 0))), some (.inl v3), some (.inl v4)] [] I P O D n Q := by
  intro fu
  induction fu with
  | zero => intro I P v1 v3 v4 h E; cases h
  | succ fu ih =>
  intro I P v1 v3 v4 h E
  have H15 : ∀ (I : Mem) (P : PMem) (v1 : Int32) (v3 : Int32) (v4 : Int32), f_X7_deaf_15 fu I P v1 v3 v4 = some (Sum.inl r) → Here X cX7_deaf RX7 5 (some .int) 9 n 15 [some (.inr (.inr (7, 0, 0))), some (.inl v1), some (.inr (.inr (1, 0, 0))), some (.inl v3), some (.inl v4)] [] I P O D n Q := fun _ _ _ _ _ b => ih b E
  simp only [f_X7_deaf_15] at h
  refine h_iload dX7_deaf_15 rfl ?_
  refine h_aload_n dX7_deaf_17 rfl ?_
  refine g_X7_16  dX7_deaf_18 ?_
  obtain ⟨g1, h⟩ := gd_some h
  have w1 := of_decide_eq_true g1
  refine g_X7_110 (by omega) dX7_deaf_21 ?_
  refine h_icmp_ge (tgt := 54) dX7_deaf_24 (by decide) (fun q1 => ?_) (fun q1 => ?_)
  · rw [if_pos q1] at h
    refine h_iload_n dX7_deaf_54 rfl ?_
    cases h
    exact h_iret dX7_deaf_55 rfl E
  · rw [if_neg q1] at h
    refine h_aload_n dX7_deaf_27 rfl ?_
    refine h_iload dX7_deaf_28 rfl ?_
    refine h_iconst (0 : Int32) dX7_deaf_30 k_iconst_0 ?_
    refine h_aload_n dX7_deaf_31 rfl ?_
    refine g_X7_270 (by decide) dX7_deaf_32 ?_
    refine h_iconst (1 : Int32) dX7_deaf_35 k_iconst_1 ?_
    refine h_iload_n dX7_deaf_36 rfl ?_
    refine h_shl dX7_deaf_37 ?_
    refine h_ixor dX7_deaf_38 ?_
    obtain ⟨y1, hh1, h⟩ := obd_some h
    refine h_cVi [.inl v4, .inl (0 : Int32), .inl ((I 1 0 0 2) ^^^ (jshl (1 : Int32) v1))] (m_X1_trioWith (by decide) hh1) cw_X7_273 dX7_deaf_39 rfl (ok_1 (by decide)) (by decide) rfl (Or.inr rfl) rfl ?_
    refine h_if_eq (tgt := 48) dX7_deaf_42 (by decide) (fun q2 => ?_) (fun q2 => ?_)
    · rw [if_pos q2] at h
      refine h_iinc (1 : Int32) dX7_deaf_48 rfl k_iinc_1 (by decide) rfl ?_
      refine h_goto (tgt := 15) dX7_deaf_51 (by decide) ?_
      exact (H15 _ _ _ _ _ h)
    · rw [if_neg q2] at h
      refine h_iinc (1 : Int32) dX7_deaf_45 rfl k_iinc_1 (by decide) rfl ?_
      refine h_iinc (1 : Int32) dX7_deaf_48 rfl k_iinc_1 (by decide) rfl ?_
      refine h_goto (tgt := 15) dX7_deaf_51 (by decide) ?_
      exact (H15 _ _ _ _ _ h)
theorem bx_X7_deaf_15 (X : CX) (Q : State → Prop) {O : Nat → Int64} {I0 : Mem} {P0 : PMem} {D : Bool} {n : Nat} {r : Nat}  : ∀ (fu : Nat) {I : Mem} {P : PMem} {v1 : Int32} {v3 : Int32} {v4 : Int32}, f_X7_deaf_15 fu I P v1 v3 v4 = some (Sum.inr r) → EndX X cX7_deaf RX7 5 (some .int) 9 (n + 1) r I0 P0 O D Q → Here X cX7_deaf RX7 5 (some .int) 9 (n + 1) 15 [some (.inr (.inr (7, 0, 0))), some (.inl v1), some (.inr (.inr (1, 0, 0))), some (.inl v3), some (.inl v4)] [] I P O D n Q := by
  intro fu
  induction fu with
  | zero => intro I P v1 v3 v4 h E; cases h
  | succ fu ih =>
  intro I P v1 v3 v4 h E
  have H15 : ∀ (I : Mem) (P : PMem) (v1 : Int32) (v3 : Int32) (v4 : Int32), f_X7_deaf_15 fu I P v1 v3 v4 = some (Sum.inr r) → Here X cX7_deaf RX7 5 (some .int) 9 (n + 1) 15 [some (.inr (.inr (7, 0, 0))), some (.inl v1), some (.inr (.inr (1, 0, 0))), some (.inl v3), some (.inl v4)] [] I P O D n Q := fun _ _ _ _ _ b => ih b E
  simp only [f_X7_deaf_15] at h
  refine h_iload dX7_deaf_15 rfl ?_
  refine h_aload_n dX7_deaf_17 rfl ?_
  refine g_X7_16  dX7_deaf_18 ?_
  obtain ⟨g1, h⟩ := gd_some h
  have w1 := of_decide_eq_true g1
  refine g_X7_110 (by omega) dX7_deaf_21 ?_
  refine h_icmp_ge (tgt := 54) dX7_deaf_24 (by decide) (fun q1 => ?_) (fun q1 => ?_)
  · rw [if_pos q1] at h
    refine h_iload_n dX7_deaf_54 rfl ?_
    cases h
  · rw [if_neg q1] at h
    refine h_aload_n dX7_deaf_27 rfl ?_
    refine h_iload dX7_deaf_28 rfl ?_
    refine h_iconst (0 : Int32) dX7_deaf_30 k_iconst_0 ?_
    refine h_aload_n dX7_deaf_31 rfl ?_
    refine g_X7_270 (by decide) dX7_deaf_32 ?_
    refine h_iconst (1 : Int32) dX7_deaf_35 k_iconst_1 ?_
    refine h_iload_n dX7_deaf_36 rfl ?_
    refine h_shl dX7_deaf_37 ?_
    refine h_ixor dX7_deaf_38 ?_
    obtain ⟨y1, hh1, h⟩ := obd_some h
    refine h_cVi [.inl v4, .inl (0 : Int32), .inl ((I 1 0 0 2) ^^^ (jshl (1 : Int32) v1))] (m_X1_trioWith (by decide) hh1) cw_X7_273 dX7_deaf_39 rfl (ok_1 (by decide)) (by decide) rfl (Or.inr rfl) rfl ?_
    refine h_if_eq (tgt := 48) dX7_deaf_42 (by decide) (fun q2 => ?_) (fun q2 => ?_)
    · rw [if_pos q2] at h
      refine h_iinc (1 : Int32) dX7_deaf_48 rfl k_iinc_1 (by decide) rfl ?_
      refine h_goto (tgt := 15) dX7_deaf_51 (by decide) ?_
      exact (H15 _ _ _ _ _ h)
    · rw [if_neg q2] at h
      refine h_iinc (1 : Int32) dX7_deaf_45 rfl k_iinc_1 (by decide) rfl ?_
      refine h_iinc (1 : Int32) dX7_deaf_48 rfl k_iinc_1 (by decide) rfl ?_
      refine h_goto (tgt := 15) dX7_deaf_51 (by decide) ?_
      exact (H15 _ _ _ _ _ h)
def f_X7_deaf   (I : Mem) (P : PMem) (v1 : Int32) : Option ((Int32 × Mem × PMem) ⊕ Nat) :=
  thb (f_X7_requireJudge I P v1) fun y1 =>
  (f_X7_settledCourt I P).bind fun y2 =>
  f_X7_deaf_15 FU y2.1 y2.2 v1 (0 : Int32) (0 : Int32)
theorem b_X7_deaf (X : CX) (Q : State → Prop) {I : Mem} {P : PMem} {O : Nat → Int64} {D : Bool} {n : Nat} {v1 : Int32} {r : (Int32 × Mem × PMem)}  (h : f_X7_deaf I P v1 = some (Sum.inl r)) (E : EndR X cX7_deaf RX7 5 (some .int) 9 n (some (.inl r.1)) r.2.1 r.2.2 O D Q) : Here X cX7_deaf RX7 5 (some .int) 9 n 0 [some (.inr (.inr (7, 0, 0))), some (.inl v1), none, none, none] [] I P O D n Q := by
  unfold f_X7_deaf at h
  refine h_aload_n dX7_deaf_0 rfl ?_
  refine h_iload_n dX7_deaf_1 rfl ?_
  obtain ⟨y1, hh1, h⟩ := thb_R h
  refine h_cVv [.inl v1] (m_X7_requireJudge  hh1) cw_X7_163 dX7_deaf_2 rfl ok_7 (by decide) rfl (Or.inr rfl) rfl ?_
  refine h_aload_n dX7_deaf_5 rfl ?_
  obtain ⟨y2, hh2, h⟩ := obd_some h
  refine h_cVa [] (m_X7_settledCourt  hh2) cw_X7_131 dX7_deaf_6 rfl ok_7 (by decide) rfl (Or.inr rfl) rfl ?_
  refine h_astore_n dX7_deaf_9 (by decide) rfl ?_
  refine h_iconst (0 : Int32) dX7_deaf_10 k_iconst_0 ?_
  refine h_istore_n dX7_deaf_11 (by decide) rfl ?_
  refine h_iconst (0 : Int32) dX7_deaf_12 k_iconst_0 ?_
  refine h_istore dX7_deaf_13 (by decide) rfl ?_
  exact (b_X7_deaf_15 X Q FU  h E)
theorem bx_X7_deaf (X : CX) (Q : State → Prop) {I : Mem} {P : PMem} {O : Nat → Int64} {D : Bool} {n : Nat} {v1 : Int32} {r : Nat}  (h : f_X7_deaf I P v1 = some (Sum.inr r)) (E : EndX X cX7_deaf RX7 5 (some .int) 9 (n + 1) r I P O D Q) : Here X cX7_deaf RX7 5 (some .int) 9 (n + 1) 0 [some (.inr (.inr (7, 0, 0))), some (.inl v1), none, none, none] [] I P O D n Q := by
  unfold f_X7_deaf at h
  refine h_aload_n dX7_deaf_0 rfl ?_
  refine h_iload_n dX7_deaf_1 rfl ?_
  rcases thb_X h with hh1 | ⟨y1, hh1, h⟩
  · exact h_callVX (as := [.inl v1]) (mx_X7_requireJudge  hh1) cw_X7_163 dX7_deaf_2 rfl ok_7 (by decide) rfl rfl E
  refine h_cVv [.inl v1] (m_X7_requireJudge  hh1) cw_X7_163 dX7_deaf_2 rfl ok_7 (by decide) rfl (Or.inr rfl) rfl ?_
  refine h_aload_n dX7_deaf_5 rfl ?_
  obtain ⟨y2, hh2, h⟩ := obd_some h
  refine h_cVa [] (m_X7_settledCourt  hh2) cw_X7_131 dX7_deaf_6 rfl ok_7 (by decide) rfl (Or.inr rfl) rfl ?_
  refine h_astore_n dX7_deaf_9 (by decide) rfl ?_
  refine h_iconst (0 : Int32) dX7_deaf_10 k_iconst_0 ?_
  refine h_istore_n dX7_deaf_11 (by decide) rfl ?_
  refine h_iconst (0 : Int32) dX7_deaf_12 k_iconst_0 ?_
  refine h_istore dX7_deaf_13 (by decide) rfl ?_
  exact (bx_X7_deaf_15 X Q FU  h E)
theorem m_X7_deaf {I : Mem} {P : PMem} {O : Nat → Int64} {D : Bool} {n : Nat} {v1 : Int32} {r : (Int32 × Mem × PMem)}  (h : f_X7_deaf I P v1 = some (Sum.inl r)) : MethR yX7_deaf cX7_deaf 5 (some .int) 9 [.inr (.inr (7, 0, 0)), .inl v1] I P O D n (some (.inl r.1)) r.2.1 r.2.2 O D n := meth_R (Nat.le_refl _) (by decide) rfl (Nat.le_of_ble_eq_true rfl) rfl (fun X Q E => b_X7_deaf X Q  h E)
theorem mx_X7_deaf {I : Mem} {P : PMem} {O : Nat → Int64} {D : Bool} {n : Nat} {v1 : Int32} {r : Nat}  (h : f_X7_deaf I P v1 = some (Sum.inr r)) : MethX yX7_deaf cX7_deaf 5 (some .int) 9 [.inr (.inr (7, 0, 0)), .inl v1] I P O D n r I P O D (n + 1) := meth_X (Nat.le_succ _) (by decide) rfl (Nat.le_of_ble_eq_true rfl) rfl (fun X Q E => bx_X7_deaf X Q  h E)
