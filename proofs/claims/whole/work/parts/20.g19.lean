theorem dX8_flood_0 : decode cX8_flood 0 = .ok (.aload_n 0, 1) := by decide +kernel
theorem dX8_flood_1 : decode cX8_flood 1 = .ok (.iconst 0, 1) := by decide +kernel
theorem dX8_flood_2 : decode cX8_flood 2 = .ok (.putfield 150, 3) := by decide +kernel
theorem dX8_flood_5 : decode cX8_flood 5 = .ok (.aload_n 0, 1) := by decide +kernel
theorem dX8_flood_6 : decode cX8_flood 6 = .ok (.iload_n 1, 1) := by decide +kernel
theorem dX8_flood_7 : decode cX8_flood 7 = .ok (.invokevirtual 413, 3) := by decide +kernel
theorem dX8_flood_10 : decode cX8_flood 10 = .ok (.ifCond .ne 9, 3) := by decide +kernel
theorem dX8_flood_13 : decode cX8_flood 13 = .ok (.aload_n 0, 1) := by decide +kernel
theorem dX8_flood_14 : decode cX8_flood 14 = .ok (.iconst 1, 1) := by decide +kernel
theorem dX8_flood_15 : decode cX8_flood 15 = .ok (.invokevirtual 298, 3) := by decide +kernel
theorem dX8_flood_18 : decode cX8_flood 18 = .ok (.ireturn, 1) := by decide +kernel
theorem dX8_flood_19 : decode cX8_flood 19 = .ok (.aload_n 0, 1) := by decide +kernel
theorem dX8_flood_20 : decode cX8_flood 20 = .ok (.getfield 320, 3) := by decide +kernel
theorem dX8_flood_23 : decode cX8_flood 23 = .ok (.iconst 4, 1) := by decide +kernel
theorem dX8_flood_24 : decode cX8_flood 24 = .ok (.if_icmp .eq 27, 3) := by decide +kernel
theorem dX8_flood_27 : decode cX8_flood 27 = .ok (.iload_n 2, 1) := by decide +kernel
theorem dX8_flood_28 : decode cX8_flood 28 = .ok (.i2l, 1) := by decide +kernel
theorem dX8_flood_29 : decode cX8_flood 29 = .ok (.lconst 0, 1) := by decide +kernel
theorem dX8_flood_30 : decode cX8_flood 30 = .ok (.ldc2_w 441, 3) := by decide +kernel
theorem dX8_flood_33 : decode cX8_flood 33 = .ok (.invokestatic 153, 3) := by decide +kernel
theorem dX8_flood_36 : decode cX8_flood 36 = .ok (.ifCond .eq 15, 3) := by decide +kernel
theorem dX8_flood_39 : decode cX8_flood 39 = .ok (.iload_n 3, 1) := by decide +kernel
theorem dX8_flood_40 : decode cX8_flood 40 = .ok (.i2l, 1) := by decide +kernel
theorem dX8_flood_41 : decode cX8_flood 41 = .ok (.lconst 0, 1) := by decide +kernel
theorem dX8_flood_42 : decode cX8_flood 42 = .ok (.ldc2_w 447, 3) := by decide +kernel
theorem dX8_flood_45 : decode cX8_flood 45 = .ok (.invokestatic 153, 3) := by decide +kernel
theorem dX8_flood_48 : decode cX8_flood 48 = .ok (.ifCond .ne 9, 3) := by decide +kernel
theorem dX8_flood_51 : decode cX8_flood 51 = .ok (.aload_n 0, 1) := by decide +kernel
theorem dX8_flood_52 : decode cX8_flood 52 = .ok (.iconst 1, 1) := by decide +kernel
theorem dX8_flood_53 : decode cX8_flood 53 = .ok (.invokevirtual 435, 3) := by decide +kernel
theorem dX8_flood_56 : decode cX8_flood 56 = .ok (.ireturn, 1) := by decide +kernel
theorem dX8_flood_57 : decode cX8_flood 57 = .ok (.aload_n 0, 1) := by decide +kernel
theorem dX8_flood_58 : decode cX8_flood 58 = .ok (.invokevirtual 438, 3) := by decide +kernel
theorem dX8_flood_61 : decode cX8_flood 61 = .ok (.aload_n 0, 1) := by decide +kernel
theorem dX8_flood_62 : decode cX8_flood 62 = .ok (.getfield 79, 3) := by decide +kernel
theorem dX8_flood_65 : decode cX8_flood 65 = .ok (.aload_n 0, 1) := by decide +kernel
theorem dX8_flood_66 : decode cX8_flood 66 = .ok (.getfield 320, 3) := by decide +kernel
theorem dX8_flood_69 : decode cX8_flood 69 = .ok (.iload_n 1, 1) := by decide +kernel
theorem dX8_flood_70 : decode cX8_flood 70 = .ok (.iload_n 2, 1) := by decide +kernel
theorem dX8_flood_71 : decode cX8_flood 71 = .ok (.iload_n 3, 1) := by decide +kernel
theorem dX8_flood_72 : decode cX8_flood 72 = .ok (.invokestatic 443, 3) := by decide +kernel
theorem dX8_flood_75 : decode cX8_flood 75 = .ok (.aload_n 0, 1) := by decide +kernel
theorem dX8_flood_76 : decode cX8_flood 76 = .ok (.dup, 1) := by decide +kernel
theorem dX8_flood_77 : decode cX8_flood 77 = .ok (.getfield 320, 3) := by decide +kernel
theorem dX8_flood_80 : decode cX8_flood 80 = .ok (.iconst 1, 1) := by decide +kernel
theorem dX8_flood_81 : decode cX8_flood 81 = .ok (.iadd, 1) := by decide +kernel
theorem dX8_flood_82 : decode cX8_flood 82 = .ok (.putfield 320, 3) := by decide +kernel
theorem dX8_flood_85 : decode cX8_flood 85 = .ok (.aload_n 0, 1) := by decide +kernel
theorem dX8_flood_86 : decode cX8_flood 86 = .ok (.getfield 320, 3) := by decide +kernel
theorem dX8_flood_89 : decode cX8_flood 89 = .ok (.ireturn, 1) := by decide +kernel
theorem dX8_undo_0 : decode cX8_undo 0 = .ok (.aload_n 0, 1) := by decide +kernel
theorem dX8_undo_1 : decode cX8_undo 1 = .ok (.iconst 0, 1) := by decide +kernel
theorem dX8_undo_2 : decode cX8_undo 2 = .ok (.putfield 150, 3) := by decide +kernel
theorem dX8_undo_5 : decode cX8_undo 5 = .ok (.aload_n 0, 1) := by decide +kernel
theorem dX8_undo_6 : decode cX8_undo 6 = .ok (.getfield 323, 3) := by decide +kernel
theorem dX8_undo_9 : decode cX8_undo 9 = .ok (.ifCond .ne 5, 3) := by decide +kernel
theorem dX8_undo_12 : decode cX8_undo 12 = .ok (.iconst (-1), 1) := by decide +kernel
theorem dX8_undo_13 : decode cX8_undo 13 = .ok (.ireturn, 1) := by decide +kernel
theorem dX8_undo_14 : decode cX8_undo 14 = .ok (.aload_n 0, 1) := by decide +kernel
theorem dX8_undo_15 : decode cX8_undo 15 = .ok (.dup, 1) := by decide +kernel
theorem dX8_undo_16 : decode cX8_undo 16 = .ok (.getfield 323, 3) := by decide +kernel
theorem dX8_undo_19 : decode cX8_undo 19 = .ok (.iconst 1, 1) := by decide +kernel
theorem dX8_undo_20 : decode cX8_undo 20 = .ok (.isub, 1) := by decide +kernel
theorem dX8_undo_21 : decode cX8_undo 21 = .ok (.putfield 323, 3) := by decide +kernel
theorem dX8_undo_24 : decode cX8_undo 24 = .ok (.aload_n 0, 1) := by decide +kernel
theorem dX8_undo_25 : decode cX8_undo 25 = .ok (.aload_n 0, 1) := by decide +kernel
theorem dX8_undo_26 : decode cX8_undo 26 = .ok (.getfield 82, 3) := by decide +kernel
theorem dX8_undo_29 : decode cX8_undo 29 = .ok (.bipush 45, 2) := by decide +kernel
theorem dX8_undo_31 : decode cX8_undo 31 = .ok (.aload_n 0, 1) := by decide +kernel
theorem dX8_undo_32 : decode cX8_undo 32 = .ok (.getfield 323, 3) := by decide +kernel
theorem dX8_undo_35 : decode cX8_undo 35 = .ok (.imul, 1) := by decide +kernel
theorem dX8_undo_36 : decode cX8_undo 36 = .ok (.invokevirtual 449, 3) := by decide +kernel
theorem dX8_undo_39 : decode cX8_undo 39 = .ok (.aload_n 0, 1) := by decide +kernel
theorem dX8_undo_40 : decode cX8_undo 40 = .ok (.getfield 323, 3) := by decide +kernel
theorem dX8_undo_43 : decode cX8_undo 43 = .ok (.ireturn, 1) := by decide +kernel
theorem dX8_burn_0 : decode cX8_burn 0 = .ok (.aload_n 0, 1) := by decide +kernel
theorem dX8_burn_1 : decode cX8_burn 1 = .ok (.iconst 0, 1) := by decide +kernel
theorem dX8_burn_2 : decode cX8_burn 2 = .ok (.putfield 150, 3) := by decide +kernel
theorem dX8_burn_5 : decode cX8_burn 5 = .ok (.iload_n 1, 1) := by decide +kernel
theorem dX8_burn_6 : decode cX8_burn 6 = .ok (.ifCond .lt 8, 3) := by decide +kernel
theorem dX8_burn_9 : decode cX8_burn 9 = .ok (.iload_n 1, 1) := by decide +kernel
theorem dX8_burn_10 : decode cX8_burn 10 = .ok (.iconst 1, 1) := by decide +kernel
theorem dX8_burn_11 : decode cX8_burn 11 = .ok (.if_icmp .le 9, 3) := by decide +kernel
theorem dX8_burn_14 : decode cX8_burn 14 = .ok (.aload_n 0, 1) := by decide +kernel
theorem dX8_burn_15 : decode cX8_burn 15 = .ok (.iconst 1, 1) := by decide +kernel
theorem dX8_burn_16 : decode cX8_burn 16 = .ok (.invokevirtual 298, 3) := by decide +kernel
theorem dX8_burn_19 : decode cX8_burn 19 = .ok (.ireturn, 1) := by decide +kernel
theorem dX8_burn_20 : decode cX8_burn 20 = .ok (.aload_n 0, 1) := by decide +kernel
theorem dX8_burn_21 : decode cX8_burn 21 = .ok (.invokevirtual 404, 3) := by decide +kernel
theorem dX8_burn_24 : decode cX8_burn 24 = .ok (.iconst (-1), 1) := by decide +kernel
theorem dX8_burn_25 : decode cX8_burn 25 = .ok (.istore_n 2, 1) := by decide +kernel
theorem dX8_burn_26 : decode cX8_burn 26 = .ok (.iconst (-1), 1) := by decide +kernel
theorem dX8_burn_27 : decode cX8_burn 27 = .ok (.istore_n 3, 1) := by decide +kernel
theorem dX8_burn_28 : decode cX8_burn 28 = .ok (.iconst 0, 1) := by decide +kernel
theorem dX8_burn_29 : decode cX8_burn 29 = .ok (.istore 4, 2) := by decide +kernel
theorem dX8_burn_31 : decode cX8_burn 31 = .ok (.iload 4, 2) := by decide +kernel
theorem dX8_burn_33 : decode cX8_burn 33 = .ok (.aload_n 0, 1) := by decide +kernel
theorem dX8_burn_34 : decode cX8_burn 34 = .ok (.getfield 34, 3) := by decide +kernel
theorem dX8_burn_37 : decode cX8_burn 37 = .ok (.iconst 0, 1) := by decide +kernel
theorem dX8_burn_38 : decode cX8_burn 38 = .ok (.iaload, 1) := by decide +kernel
theorem dX8_burn_39 : decode cX8_burn 39 = .ok (.if_icmp .ge 71, 3) := by decide +kernel
theorem dX8_burn_42 : decode cX8_burn 42 = .ok (.aload_n 0, 1) := by decide +kernel
theorem dX8_burn_43 : decode cX8_burn 43 = .ok (.getfield 311, 3) := by decide +kernel
theorem dX8_burn_46 : decode cX8_burn 46 = .ok (.iload 4, 2) := by decide +kernel
theorem dX8_burn_48 : decode cX8_burn 48 = .ok (.ishr, 1) := by decide +kernel
theorem dX8_burn_49 : decode cX8_burn 49 = .ok (.iconst 1, 1) := by decide +kernel
theorem dX8_burn_50 : decode cX8_burn 50 = .ok (.iand, 1) := by decide +kernel
theorem dX8_burn_51 : decode cX8_burn 51 = .ok (.ifCond .ne 6, 3) := by decide +kernel
theorem dX8_burn_54 : decode cX8_burn 54 = .ok (.goto 50, 3) := by decide +kernel
theorem dX8_burn_57 : decode cX8_burn 57 = .ok (.aload_n 0, 1) := by decide +kernel
theorem dX8_burn_58 : decode cX8_burn 58 = .ok (.dup, 1) := by decide +kernel
theorem dX8_burn_59 : decode cX8_burn 59 = .ok (.getfield 311, 3) := by decide +kernel
theorem dX8_burn_62 : decode cX8_burn 62 = .ok (.iconst 1, 1) := by decide +kernel
theorem dX8_burn_63 : decode cX8_burn 63 = .ok (.iload 4, 2) := by decide +kernel
theorem dX8_burn_65 : decode cX8_burn 65 = .ok (.ishl, 1) := by decide +kernel
theorem dX8_burn_66 : decode cX8_burn 66 = .ok (.ixor, 1) := by decide +kernel
theorem dX8_burn_67 : decode cX8_burn 67 = .ok (.putfield 311, 3) := by decide +kernel
theorem dX8_burn_70 : decode cX8_burn 70 = .ok (.aload_n 0, 1) := by decide +kernel
theorem dX8_burn_71 : decode cX8_burn 71 = .ok (.invokevirtual 407, 3) := by decide +kernel
theorem dX8_burn_74 : decode cX8_burn 74 = .ok (.istore 5, 2) := by decide +kernel
theorem dX8_burn_76 : decode cX8_burn 76 = .ok (.aload_n 0, 1) := by decide +kernel
theorem dX8_burn_77 : decode cX8_burn 77 = .ok (.dup, 1) := by decide +kernel
theorem dX8_burn_78 : decode cX8_burn 78 = .ok (.getfield 311, 3) := by decide +kernel
theorem dX8_burn_81 : decode cX8_burn 81 = .ok (.iconst 1, 1) := by decide +kernel
theorem dX8_burn_82 : decode cX8_burn 82 = .ok (.iload 4, 2) := by decide +kernel
theorem dX8_burn_84 : decode cX8_burn 84 = .ok (.ishl, 1) := by decide +kernel
theorem dX8_burn_85 : decode cX8_burn 85 = .ok (.ixor, 1) := by decide +kernel
theorem dX8_burn_86 : decode cX8_burn 86 = .ok (.putfield 311, 3) := by decide +kernel
theorem dX8_burn_89 : decode cX8_burn 89 = .ok (.iload 5, 2) := by decide +kernel
theorem dX8_burn_91 : decode cX8_burn 91 = .ok (.iload_n 3, 1) := by decide +kernel
theorem dX8_burn_92 : decode cX8_burn 92 = .ok (.if_icmp .gt 6, 3) := by decide +kernel
theorem dX8_burn_95 : decode cX8_burn 95 = .ok (.goto 9, 3) := by decide +kernel
theorem dX8_burn_98 : decode cX8_burn 98 = .ok (.iload 4, 2) := by decide +kernel
theorem dX8_burn_100 : decode cX8_burn 100 = .ok (.istore_n 2, 1) := by decide +kernel
theorem dX8_burn_101 : decode cX8_burn 101 = .ok (.iload 5, 2) := by decide +kernel
theorem dX8_burn_103 : decode cX8_burn 103 = .ok (.istore_n 3, 1) := by decide +kernel
theorem dX8_burn_104 : decode cX8_burn 104 = .ok (.iinc 4 1, 3) := by decide +kernel
theorem dX8_burn_107 : decode cX8_burn 107 = .ok (.goto (-76), 3) := by decide +kernel
theorem dX8_burn_110 : decode cX8_burn 110 = .ok (.iload_n 1, 1) := by decide +kernel
theorem dX8_burn_111 : decode cX8_burn 111 = .ok (.ifCond .ne 7, 3) := by decide +kernel
theorem dX8_burn_114 : decode cX8_burn 114 = .ok (.iload_n 2, 1) := by decide +kernel
theorem dX8_burn_115 : decode cX8_burn 115 = .ok (.goto 4, 3) := by decide +kernel
theorem dX8_burn_118 : decode cX8_burn 118 = .ok (.iload_n 3, 1) := by decide +kernel
theorem dX8_burn_119 : decode cX8_burn 119 = .ok (.ireturn, 1) := by decide +kernel
theorem dX8_when_0 : decode cX8_when 0 = .ok (.aload_n 0, 1) := by decide +kernel
theorem dX8_when_1 : decode cX8_when 1 = .ok (.iconst 0, 1) := by decide +kernel
theorem dX8_when_2 : decode cX8_when 2 = .ok (.putfield 150, 3) := by decide +kernel
theorem dX8_when_5 : decode cX8_when 5 = .ok (.aload_n 0, 1) := by decide +kernel
theorem dX8_when_6 : decode cX8_when 6 = .ok (.iload_n 1, 1) := by decide +kernel
theorem dX8_when_7 : decode cX8_when 7 = .ok (.invokevirtual 419, 3) := by decide +kernel
theorem dX8_when_10 : decode cX8_when 10 = .ok (.ifCond .eq 12, 3) := by decide +kernel
theorem dX8_when_13 : decode cX8_when 13 = .ok (.iload_n 2, 1) := by decide +kernel
theorem dX8_when_14 : decode cX8_when 14 = .ok (.ifCond .lt 8, 3) := by decide +kernel
theorem dX8_when_17 : decode cX8_when 17 = .ok (.iload_n 2, 1) := by decide +kernel
theorem dX8_when_18 : decode cX8_when 18 = .ok (.iconst 1, 1) := by decide +kernel
theorem dX8_when_19 : decode cX8_when 19 = .ok (.if_icmp .le 9, 3) := by decide +kernel
theorem dX8_when_22 : decode cX8_when 22 = .ok (.aload_n 0, 1) := by decide +kernel
theorem dX8_when_23 : decode cX8_when 23 = .ok (.iconst 1, 1) := by decide +kernel
theorem dX8_when_24 : decode cX8_when 24 = .ok (.invokevirtual 298, 3) := by decide +kernel
theorem dX8_when_27 : decode cX8_when 27 = .ok (.ireturn, 1) := by decide +kernel
theorem dX8_when_28 : decode cX8_when 28 = .ok (.aload_n 0, 1) := by decide +kernel
theorem dX8_when_29 : decode cX8_when 29 = .ok (.invokevirtual 404, 3) := by decide +kernel
theorem dX8_when_32 : decode cX8_when 32 = .ok (.aload_n 0, 1) := by decide +kernel
theorem dX8_when_33 : decode cX8_when 33 = .ok (.getfield 44, 3) := by decide +kernel
theorem dX8_when_36 : decode cX8_when 36 = .ok (.iload_n 1, 1) := by decide +kernel
theorem dX8_when_37 : decode cX8_when 37 = .ok (.iaload, 1) := by decide +kernel
theorem dX8_when_38 : decode cX8_when 38 = .ok (.istore_n 3, 1) := by decide +kernel
theorem dX8_when_39 : decode cX8_when 39 = .ok (.iconst (-1), 1) := by decide +kernel
theorem dX8_when_40 : decode cX8_when 40 = .ok (.istore 4, 2) := by decide +kernel
theorem dX8_when_42 : decode cX8_when 42 = .ok (.iconst (-1), 1) := by decide +kernel
theorem dX8_when_43 : decode cX8_when 43 = .ok (.istore 5, 2) := by decide +kernel
theorem dX8_when_45 : decode cX8_when 45 = .ok (.iconst 0, 1) := by decide +kernel
theorem dX8_when_46 : decode cX8_when 46 = .ok (.istore 6, 2) := by decide +kernel
theorem dX8_when_48 : decode cX8_when 48 = .ok (.iload 6, 2) := by decide +kernel
theorem dX8_when_50 : decode cX8_when 50 = .ok (.bipush 60, 2) := by decide +kernel
theorem dX8_when_52 : decode cX8_when 52 = .ok (.if_icmp .gt 41, 3) := by decide +kernel
theorem dX8_when_55 : decode cX8_when 55 = .ok (.aload_n 0, 1) := by decide +kernel
theorem dX8_when_56 : decode cX8_when 56 = .ok (.getfield 44, 3) := by decide +kernel
theorem dX8_when_59 : decode cX8_when 59 = .ok (.iload_n 1, 1) := by decide +kernel
theorem dX8_when_60 : decode cX8_when 60 = .ok (.iload 6, 2) := by decide +kernel
theorem dX8_when_62 : decode cX8_when 62 = .ok (.iastore, 1) := by decide +kernel
theorem dX8_when_63 : decode cX8_when 63 = .ok (.aload_n 0, 1) := by decide +kernel
theorem dX8_when_64 : decode cX8_when 64 = .ok (.invokevirtual 407, 3) := by decide +kernel
theorem dX8_when_67 : decode cX8_when 67 = .ok (.istore 7, 2) := by decide +kernel
theorem dX8_when_69 : decode cX8_when 69 = .ok (.iload 7, 2) := by decide +kernel
theorem dX8_when_71 : decode cX8_when 71 = .ok (.iload 5, 2) := by decide +kernel
theorem dX8_when_73 : decode cX8_when 73 = .ok (.if_icmp .gt 6, 3) := by decide +kernel
theorem dX8_when_76 : decode cX8_when 76 = .ok (.goto 11, 3) := by decide +kernel
theorem dX8_when_79 : decode cX8_when 79 = .ok (.iload 6, 2) := by decide +kernel
theorem dX8_when_81 : decode cX8_when 81 = .ok (.istore 4, 2) := by decide +kernel
theorem dX8_when_83 : decode cX8_when 83 = .ok (.iload 7, 2) := by decide +kernel
theorem dX8_when_85 : decode cX8_when 85 = .ok (.istore 5, 2) := by decide +kernel
theorem dX8_when_87 : decode cX8_when 87 = .ok (.iinc 6 1, 3) := by decide +kernel
theorem dX8_when_90 : decode cX8_when 90 = .ok (.goto (-42), 3) := by decide +kernel
theorem dX8_when_93 : decode cX8_when 93 = .ok (.aload_n 0, 1) := by decide +kernel
theorem dX8_when_94 : decode cX8_when 94 = .ok (.getfield 44, 3) := by decide +kernel
theorem dX8_when_97 : decode cX8_when 97 = .ok (.iload_n 1, 1) := by decide +kernel
theorem dX8_when_98 : decode cX8_when 98 = .ok (.iload_n 3, 1) := by decide +kernel
theorem dX8_when_99 : decode cX8_when 99 = .ok (.iastore, 1) := by decide +kernel
theorem dX8_when_100 : decode cX8_when 100 = .ok (.iload_n 2, 1) := by decide +kernel
theorem dX8_when_101 : decode cX8_when 101 = .ok (.ifCond .ne 8, 3) := by decide +kernel
theorem dX8_when_104 : decode cX8_when 104 = .ok (.iload 4, 2) := by decide +kernel
theorem dX8_when_106 : decode cX8_when 106 = .ok (.goto 5, 3) := by decide +kernel
theorem dX8_when_109 : decode cX8_when 109 = .ok (.iload 5, 2) := by decide +kernel
theorem dX8_when_111 : decode cX8_when 111 = .ok (.ireturn, 1) := by decide +kernel
theorem dX8_round_0 : decode cX8_round 0 = .ok (.aload_n 0, 1) := by decide +kernel
theorem dX8_round_1 : decode cX8_round 1 = .ok (.iconst 0, 1) := by decide +kernel
theorem dX8_round_2 : decode cX8_round 2 = .ok (.putfield 150, 3) := by decide +kernel
theorem dX8_round_5 : decode cX8_round 5 = .ok (.aload_n 0, 1) := by decide +kernel
theorem dX8_round_6 : decode cX8_round 6 = .ok (.iload_n 1, 1) := by decide +kernel
theorem dX8_round_7 : decode cX8_round 7 = .ok (.invokevirtual 419, 3) := by decide +kernel
theorem dX8_round_10 : decode cX8_round 10 = .ok (.ifCond .ne 9, 3) := by decide +kernel
theorem dX8_round_13 : decode cX8_round 13 = .ok (.aload_n 0, 1) := by decide +kernel
theorem dX8_round_14 : decode cX8_round 14 = .ok (.iconst 1, 1) := by decide +kernel
theorem dX8_round_15 : decode cX8_round 15 = .ok (.invokevirtual 298, 3) := by decide +kernel
theorem dX8_round_18 : decode cX8_round 18 = .ok (.ireturn, 1) := by decide +kernel
theorem dX8_round_19 : decode cX8_round 19 = .ok (.aload_n 0, 1) := by decide +kernel
theorem dX8_round_20 : decode cX8_round 20 = .ok (.invokevirtual 410, 3) := by decide +kernel
theorem dX8_round_23 : decode cX8_round 23 = .ok (.istore_n 2, 1) := by decide +kernel
theorem dX8_round_24 : decode cX8_round 24 = .ok (.aload_n 0, 1) := by decide +kernel
theorem dX8_round_25 : decode cX8_round 25 = .ok (.iload_n 1, 1) := by decide +kernel
theorem dX8_round_26 : decode cX8_round 26 = .ok (.putfield 100, 3) := by decide +kernel
theorem dX8_round_29 : decode cX8_round 29 = .ok (.aload_n 0, 1) := by decide +kernel
theorem dX8_round_30 : decode cX8_round 30 = .ok (.invokevirtual 407, 3) := by decide +kernel
theorem dX8_round_33 : decode cX8_round 33 = .ok (.iload_n 2, 1) := by decide +kernel
theorem dX8_round_34 : decode cX8_round 34 = .ok (.isub, 1) := by decide +kernel
theorem dX8_round_35 : decode cX8_round 35 = .ok (.ireturn, 1) := by decide +kernel
theorem dX8_free_0 : decode cX8_free 0 = .ok (.aload_n 0, 1) := by decide +kernel
theorem dX8_free_1 : decode cX8_free 1 = .ok (.iconst 0, 1) := by decide +kernel
theorem dX8_free_2 : decode cX8_free 2 = .ok (.putfield 150, 3) := by decide +kernel
theorem dX8_free_5 : decode cX8_free 5 = .ok (.aload_n 0, 1) := by decide +kernel
theorem dX8_free_6 : decode cX8_free 6 = .ok (.iload_n 1, 1) := by decide +kernel
theorem dX8_free_7 : decode cX8_free 7 = .ok (.invokevirtual 424, 3) := by decide +kernel
theorem dX8_free_10 : decode cX8_free 10 = .ok (.ifCond .eq 12, 3) := by decide +kernel
theorem dX8_free_13 : decode cX8_free 13 = .ok (.iload_n 2, 1) := by decide +kernel
theorem dX8_free_14 : decode cX8_free 14 = .ok (.ifCond .lt 8, 3) := by decide +kernel
theorem dX8_free_17 : decode cX8_free 17 = .ok (.iload_n 2, 1) := by decide +kernel
theorem dX8_free_18 : decode cX8_free 18 = .ok (.iconst 1, 1) := by decide +kernel
theorem dX8_free_19 : decode cX8_free 19 = .ok (.if_icmp .le 9, 3) := by decide +kernel
theorem dX8_free_22 : decode cX8_free 22 = .ok (.aload_n 0, 1) := by decide +kernel
theorem dX8_free_23 : decode cX8_free 23 = .ok (.iconst 1, 1) := by decide +kernel
theorem dX8_free_24 : decode cX8_free 24 = .ok (.invokevirtual 298, 3) := by decide +kernel
theorem dX8_free_27 : decode cX8_free 27 = .ok (.ireturn, 1) := by decide +kernel
theorem dX8_free_28 : decode cX8_free 28 = .ok (.aload_n 0, 1) := by decide +kernel
theorem dX8_free_29 : decode cX8_free 29 = .ok (.invokevirtual 410, 3) := by decide +kernel
theorem dX8_free_32 : decode cX8_free 32 = .ok (.pop, 1) := by decide +kernel
theorem dX8_free_33 : decode cX8_free 33 = .ok (.aload_n 0, 1) := by decide +kernel
theorem dX8_free_34 : decode cX8_free 34 = .ok (.getfield 117, 3) := by decide +kernel
theorem dX8_free_37 : decode cX8_free 37 = .ok (.iload_n 1, 1) := by decide +kernel
theorem dX8_free_38 : decode cX8_free 38 = .ok (.iaload, 1) := by decide +kernel
theorem dX8_free_39 : decode cX8_free 39 = .ok (.ldc 186, 2) := by decide +kernel
theorem dX8_free_41 : decode cX8_free 41 = .ok (.if_icmp .lt 6, 3) := by decide +kernel
theorem dX8_free_44 : decode cX8_free 44 = .ok (.bipush (-2), 2) := by decide +kernel
theorem dX8_free_46 : decode cX8_free 46 = .ok (.ireturn, 1) := by decide +kernel
theorem dX8_free_47 : decode cX8_free 47 = .ok (.aload_n 0, 1) := by decide +kernel
theorem dX8_free_48 : decode cX8_free 48 = .ok (.dup, 1) := by decide +kernel
theorem dX8_free_49 : decode cX8_free 49 = .ok (.getfield 314, 3) := by decide +kernel
theorem dX8_free_52 : decode cX8_free 52 = .ok (.iconst 1, 1) := by decide +kernel
theorem dX8_free_53 : decode cX8_free 53 = .ok (.iadd, 1) := by decide +kernel
theorem dX8_free_54 : decode cX8_free 54 = .ok (.putfield 314, 3) := by decide +kernel
theorem dX8_free_57 : decode cX8_free 57 = .ok (.iconst (-1), 1) := by decide +kernel
theorem dX8_free_58 : decode cX8_free 58 = .ok (.istore_n 3, 1) := by decide +kernel
theorem dX8_free_59 : decode cX8_free 59 = .ok (.iconst 0, 1) := by decide +kernel
theorem dX8_free_60 : decode cX8_free 60 = .ok (.istore 4, 2) := by decide +kernel
theorem dX8_free_62 : decode cX8_free 62 = .ok (.iload 4, 2) := by decide +kernel
theorem dX8_free_64 : decode cX8_free 64 = .ok (.aload_n 0, 1) := by decide +kernel
theorem dX8_free_65 : decode cX8_free 65 = .ok (.getfield 34, 3) := by decide +kernel
theorem dX8_free_68 : decode cX8_free 68 = .ok (.iconst 0, 1) := by decide +kernel
theorem dX8_free_69 : decode cX8_free 69 = .ok (.iaload, 1) := by decide +kernel
theorem dX8_free_70 : decode cX8_free 70 = .ok (.bipush 61, 2) := by decide +kernel
theorem dX8_free_72 : decode cX8_free 72 = .ok (.imul, 1) := by decide +kernel
theorem dX8_free_73 : decode cX8_free 73 = .ok (.if_icmp .ge 69, 3) := by decide +kernel
theorem dX8_free_76 : decode cX8_free 76 = .ok (.iload_n 3, 1) := by decide +kernel
theorem dX8_free_77 : decode cX8_free 77 = .ok (.iconst (-1), 1) := by decide +kernel
theorem dX8_free_78 : decode cX8_free 78 = .ok (.if_icmp .ne 64, 3) := by decide +kernel
theorem dX8_free_81 : decode cX8_free 81 = .ok (.aload_n 0, 1) := by decide +kernel
theorem dX8_free_82 : decode cX8_free 82 = .ok (.getfield 73, 3) := by decide +kernel
theorem dX8_free_85 : decode cX8_free 85 = .ok (.aload_n 0, 1) := by decide +kernel
theorem dX8_free_86 : decode cX8_free 86 = .ok (.getfield 314, 3) := by decide +kernel
theorem dX8_free_89 : decode cX8_free 89 = .ok (.iconst 1, 1) := by decide +kernel
theorem dX8_free_90 : decode cX8_free 90 = .ok (.isub, 1) := by decide +kernel
theorem dX8_free_91 : decode cX8_free 91 = .ok (.iload_n 1, 1) := by decide +kernel
theorem dX8_free_92 : decode cX8_free 92 = .ok (.iload 4, 2) := by decide +kernel
theorem dX8_free_94 : decode cX8_free 94 = .ok (.aload_n 0, 1) := by decide +kernel
theorem dX8_free_95 : decode cX8_free 95 = .ok (.getfield 34, 3) := by decide +kernel
theorem dX8_free_98 : decode cX8_free 98 = .ok (.iconst 0, 1) := by decide +kernel
theorem dX8_free_99 : decode cX8_free 99 = .ok (.iaload, 1) := by decide +kernel
theorem dX8_free_100 : decode cX8_free 100 = .ok (.irem, 1) := by decide +kernel
theorem dX8_free_101 : decode cX8_free 101 = .ok (.iload 4, 2) := by decide +kernel
theorem dX8_free_103 : decode cX8_free 103 = .ok (.aload_n 0, 1) := by decide +kernel
theorem dX8_free_104 : decode cX8_free 104 = .ok (.getfield 34, 3) := by decide +kernel
theorem dX8_free_107 : decode cX8_free 107 = .ok (.iconst 0, 1) := by decide +kernel
theorem dX8_free_108 : decode cX8_free 108 = .ok (.iaload, 1) := by decide +kernel
theorem dX8_free_109 : decode cX8_free 109 = .ok (.idiv, 1) := by decide +kernel
theorem dX8_free_110 : decode cX8_free 110 = .ok (.invokestatic 443, 3) := by decide +kernel
theorem dX8_free_113 : decode cX8_free 113 = .ok (.aload_n 0, 1) := by decide +kernel
theorem dX8_free_114 : decode cX8_free 114 = .ok (.iload_n 1, 1) := by decide +kernel
theorem dX8_free_115 : decode cX8_free 115 = .ok (.invokevirtual 401, 3) := by decide +kernel
theorem dX8_free_118 : decode cX8_free 118 = .ok (.aload_n 0, 1) := by decide +kernel
theorem dX8_free_119 : decode cX8_free 119 = .ok (.getfield 117, 3) := by decide +kernel
theorem dX8_free_122 : decode cX8_free 122 = .ok (.iload_n 1, 1) := by decide +kernel
theorem dX8_free_123 : decode cX8_free 123 = .ok (.iaload, 1) := by decide +kernel
theorem dX8_free_124 : decode cX8_free 124 = .ok (.ldc 186, 2) := by decide +kernel
theorem dX8_free_126 : decode cX8_free 126 = .ok (.if_icmp .lt 8, 3) := by decide +kernel
theorem dX8_free_129 : decode cX8_free 129 = .ok (.iload 4, 2) := by decide +kernel
theorem dX8_free_131 : decode cX8_free 131 = .ok (.goto 4, 3) := by decide +kernel
theorem dX8_free_134 : decode cX8_free 134 = .ok (.iconst (-1), 1) := by decide +kernel
theorem dX8_free_135 : decode cX8_free 135 = .ok (.istore_n 3, 1) := by decide +kernel
theorem dX8_free_136 : decode cX8_free 136 = .ok (.iinc 4 1, 3) := by decide +kernel
theorem dX8_free_139 : decode cX8_free 139 = .ok (.goto (-77), 3) := by decide +kernel
theorem dX8_free_142 : decode cX8_free 142 = .ok (.aload_n 0, 1) := by decide +kernel
theorem dX8_free_143 : decode cX8_free 143 = .ok (.dup, 1) := by decide +kernel
theorem dX8_free_144 : decode cX8_free 144 = .ok (.getfield 314, 3) := by decide +kernel
theorem dX8_free_147 : decode cX8_free 147 = .ok (.iconst 1, 1) := by decide +kernel
theorem dX8_free_148 : decode cX8_free 148 = .ok (.isub, 1) := by decide +kernel
theorem dX8_free_149 : decode cX8_free 149 = .ok (.putfield 314, 3) := by decide +kernel
theorem dX8_free_152 : decode cX8_free 152 = .ok (.iload_n 3, 1) := by decide +kernel
theorem dX8_free_153 : decode cX8_free 153 = .ok (.iconst (-1), 1) := by decide +kernel
theorem dX8_free_154 : decode cX8_free 154 = .ok (.if_icmp .ne 7, 3) := by decide +kernel
theorem dX8_free_157 : decode cX8_free 157 = .ok (.iconst (-1), 1) := by decide +kernel
theorem dX8_free_158 : decode cX8_free 158 = .ok (.goto 26, 3) := by decide +kernel
theorem dX8_free_161 : decode cX8_free 161 = .ok (.iload_n 2, 1) := by decide +kernel
theorem dX8_free_162 : decode cX8_free 162 = .ok (.ifCond .ne 14, 3) := by decide +kernel
theorem dX8_free_165 : decode cX8_free 165 = .ok (.iload_n 3, 1) := by decide +kernel
theorem dX8_free_166 : decode cX8_free 166 = .ok (.aload_n 0, 1) := by decide +kernel
theorem dX8_free_167 : decode cX8_free 167 = .ok (.getfield 34, 3) := by decide +kernel
theorem dX8_free_170 : decode cX8_free 170 = .ok (.iconst 0, 1) := by decide +kernel
theorem dX8_free_171 : decode cX8_free 171 = .ok (.iaload, 1) := by decide +kernel
theorem dX8_free_172 : decode cX8_free 172 = .ok (.idiv, 1) := by decide +kernel
theorem dX8_free_173 : decode cX8_free 173 = .ok (.goto 11, 3) := by decide +kernel
theorem dX8_free_176 : decode cX8_free 176 = .ok (.iload_n 3, 1) := by decide +kernel
theorem dX8_free_177 : decode cX8_free 177 = .ok (.aload_n 0, 1) := by decide +kernel
theorem dX8_free_178 : decode cX8_free 178 = .ok (.getfield 34, 3) := by decide +kernel
theorem dX8_free_181 : decode cX8_free 181 = .ok (.iconst 0, 1) := by decide +kernel
theorem dX8_free_182 : decode cX8_free 182 = .ok (.iaload, 1) := by decide +kernel
theorem dX8_free_183 : decode cX8_free 183 = .ok (.irem, 1) := by decide +kernel
theorem dX8_free_184 : decode cX8_free 184 = .ok (.ireturn, 1) := by decide +kernel
theorem dX8_mercy_0 : decode cX8_mercy 0 = .ok (.aload_n 0, 1) := by decide +kernel
theorem dX8_mercy_1 : decode cX8_mercy 1 = .ok (.iconst 0, 1) := by decide +kernel
theorem dX8_mercy_2 : decode cX8_mercy 2 = .ok (.putfield 150, 3) := by decide +kernel
theorem dX8_mercy_5 : decode cX8_mercy 5 = .ok (.aload_n 0, 1) := by decide +kernel
theorem dX8_mercy_6 : decode cX8_mercy 6 = .ok (.iload_n 1, 1) := by decide +kernel
theorem dX8_mercy_7 : decode cX8_mercy 7 = .ok (.invokevirtual 424, 3) := by decide +kernel
theorem dX8_mercy_10 : decode cX8_mercy 10 = .ok (.ifCond .ne 9, 3) := by decide +kernel
theorem dX8_mercy_13 : decode cX8_mercy 13 = .ok (.aload_n 0, 1) := by decide +kernel
theorem dX8_mercy_14 : decode cX8_mercy 14 = .ok (.iconst 1, 1) := by decide +kernel
theorem dX8_mercy_15 : decode cX8_mercy 15 = .ok (.invokevirtual 298, 3) := by decide +kernel
theorem dX8_mercy_18 : decode cX8_mercy 18 = .ok (.ireturn, 1) := by decide +kernel
theorem dX8_mercy_19 : decode cX8_mercy 19 = .ok (.aload_n 0, 1) := by decide +kernel
theorem dX8_mercy_20 : decode cX8_mercy 20 = .ok (.invokevirtual 410, 3) := by decide +kernel
theorem dX8_mercy_23 : decode cX8_mercy 23 = .ok (.pop, 1) := by decide +kernel
theorem dX8_mercy_24 : decode cX8_mercy 24 = .ok (.aload_n 0, 1) := by decide +kernel
theorem dX8_mercy_25 : decode cX8_mercy 25 = .ok (.iload_n 1, 1) := by decide +kernel
theorem dX8_mercy_26 : decode cX8_mercy 26 = .ok (.putfield 103, 3) := by decide +kernel
theorem dX8_mercy_29 : decode cX8_mercy 29 = .ok (.iconst (-1), 1) := by decide +kernel
theorem dX8_mercy_30 : decode cX8_mercy 30 = .ok (.istore_n 2, 1) := by decide +kernel
theorem dX8_mercy_31 : decode cX8_mercy 31 = .ok (.iconst 0, 1) := by decide +kernel
theorem dX8_mercy_32 : decode cX8_mercy 32 = .ok (.istore_n 3, 1) := by decide +kernel
theorem dX8_mercy_33 : decode cX8_mercy 33 = .ok (.iload_n 3, 1) := by decide +kernel
theorem dX8_mercy_34 : decode cX8_mercy 34 = .ok (.iconst 1, 1) := by decide +kernel
theorem dX8_mercy_35 : decode cX8_mercy 35 = .ok (.aload_n 0, 1) := by decide +kernel
theorem dX8_mercy_36 : decode cX8_mercy 36 = .ok (.getfield 34, 3) := by decide +kernel
theorem dX8_mercy_39 : decode cX8_mercy 39 = .ok (.iconst 4, 1) := by decide +kernel
theorem dX8_mercy_40 : decode cX8_mercy 40 = .ok (.iaload, 1) := by decide +kernel
theorem dX8_mercy_41 : decode cX8_mercy 41 = .ok (.ishl, 1) := by decide +kernel
theorem dX8_mercy_42 : decode cX8_mercy 42 = .ok (.if_icmp .ge 64, 3) := by decide +kernel
theorem dX8_mercy_45 : decode cX8_mercy 45 = .ok (.iload_n 3, 1) := by decide +kernel
theorem dX8_mercy_46 : decode cX8_mercy 46 = .ok (.aload_n 0, 1) := by decide +kernel
theorem dX8_mercy_47 : decode cX8_mercy 47 = .ok (.getfield 343, 3) := by decide +kernel
theorem dX8_mercy_50 : decode cX8_mercy 50 = .ok (.iand, 1) := by decide +kernel
theorem dX8_mercy_51 : decode cX8_mercy 51 = .ok (.ifCond .ne 49, 3) := by decide +kernel
theorem dX8_mercy_54 : decode cX8_mercy 54 = .ok (.iload_n 2, 1) := by decide +kernel
theorem dX8_mercy_55 : decode cX8_mercy 55 = .ok (.iconst (-1), 1) := by decide +kernel
theorem dX8_mercy_56 : decode cX8_mercy 56 = .ok (.if_icmp .eq 17, 3) := by decide +kernel
theorem dX8_mercy_59 : decode cX8_mercy 59 = .ok (.iload_n 3, 1) := by decide +kernel
theorem dX8_mercy_60 : decode cX8_mercy 60 = .ok (.invokestatic 452, 3) := by decide +kernel
theorem dX8_mercy_63 : decode cX8_mercy 63 = .ok (.iload_n 2, 1) := by decide +kernel
theorem dX8_mercy_64 : decode cX8_mercy 64 = .ok (.invokestatic 452, 3) := by decide +kernel
theorem dX8_mercy_67 : decode cX8_mercy 67 = .ok (.if_icmp .lt 6, 3) := by decide +kernel
theorem dX8_mercy_70 : decode cX8_mercy 70 = .ok (.goto 30, 3) := by decide +kernel
theorem dX8_mercy_73 : decode cX8_mercy 73 = .ok (.aload_n 0, 1) := by decide +kernel
theorem dX8_mercy_74 : decode cX8_mercy 74 = .ok (.iload_n 3, 1) := by decide +kernel
theorem dX8_mercy_75 : decode cX8_mercy 75 = .ok (.putfield 340, 3) := by decide +kernel
theorem dX8_mercy_78 : decode cX8_mercy 78 = .ok (.aload_n 0, 1) := by decide +kernel
theorem dX8_mercy_79 : decode cX8_mercy 79 = .ok (.iload_n 1, 1) := by decide +kernel
theorem dX8_mercy_80 : decode cX8_mercy 80 = .ok (.invokevirtual 401, 3) := by decide +kernel
theorem dX8_mercy_83 : decode cX8_mercy 83 = .ok (.aload_n 0, 1) := by decide +kernel
theorem dX8_mercy_84 : decode cX8_mercy 84 = .ok (.getfield 117, 3) := by decide +kernel
theorem dX8_mercy_87 : decode cX8_mercy 87 = .ok (.iload_n 1, 1) := by decide +kernel
theorem dX8_mercy_88 : decode cX8_mercy 88 = .ok (.iaload, 1) := by decide +kernel
theorem dX8_mercy_89 : decode cX8_mercy 89 = .ok (.ldc 186, 2) := by decide +kernel
theorem dX8_mercy_91 : decode cX8_mercy 91 = .ok (.if_icmp .lt 7, 3) := by decide +kernel
theorem dX8_mercy_94 : decode cX8_mercy 94 = .ok (.iload_n 3, 1) := by decide +kernel
theorem dX8_mercy_95 : decode cX8_mercy 95 = .ok (.goto 4, 3) := by decide +kernel
theorem dX8_mercy_98 : decode cX8_mercy 98 = .ok (.iload_n 2, 1) := by decide +kernel
theorem dX8_mercy_99 : decode cX8_mercy 99 = .ok (.istore_n 2, 1) := by decide +kernel
theorem dX8_mercy_100 : decode cX8_mercy 100 = .ok (.iinc 3 1, 3) := by decide +kernel
theorem dX8_mercy_103 : decode cX8_mercy 103 = .ok (.goto (-70), 3) := by decide +kernel
theorem dX8_mercy_106 : decode cX8_mercy 106 = .ok (.iload_n 2, 1) := by decide +kernel
theorem dX8_mercy_107 : decode cX8_mercy 107 = .ok (.ireturn, 1) := by decide +kernel
theorem dX8_deaf_0 : decode cX8_deaf 0 = .ok (.aload_n 0, 1) := by decide +kernel
theorem dX8_deaf_1 : decode cX8_deaf 1 = .ok (.iconst 0, 1) := by decide +kernel
theorem dX8_deaf_2 : decode cX8_deaf 2 = .ok (.putfield 150, 3) := by decide +kernel
theorem dX8_deaf_5 : decode cX8_deaf 5 = .ok (.aload_n 0, 1) := by decide +kernel
theorem dX8_deaf_6 : decode cX8_deaf 6 = .ok (.iload_n 1, 1) := by decide +kernel
theorem dX8_deaf_7 : decode cX8_deaf 7 = .ok (.invokevirtual 419, 3) := by decide +kernel
theorem dX8_deaf_10 : decode cX8_deaf 10 = .ok (.ifCond .ne 9, 3) := by decide +kernel
theorem dX8_deaf_13 : decode cX8_deaf 13 = .ok (.aload_n 0, 1) := by decide +kernel
theorem dX8_deaf_14 : decode cX8_deaf 14 = .ok (.iconst 1, 1) := by decide +kernel
theorem dX8_deaf_15 : decode cX8_deaf 15 = .ok (.invokevirtual 298, 3) := by decide +kernel
theorem dX8_deaf_18 : decode cX8_deaf 18 = .ok (.ireturn, 1) := by decide +kernel
theorem dX8_deaf_19 : decode cX8_deaf 19 = .ok (.aload_n 0, 1) := by decide +kernel
theorem dX8_deaf_20 : decode cX8_deaf 20 = .ok (.invokevirtual 410, 3) := by decide +kernel
theorem dX8_deaf_23 : decode cX8_deaf 23 = .ok (.pop, 1) := by decide +kernel
theorem dX8_deaf_24 : decode cX8_deaf 24 = .ok (.aload_n 0, 1) := by decide +kernel
theorem dX8_deaf_25 : decode cX8_deaf 25 = .ok (.dup, 1) := by decide +kernel
theorem dX8_deaf_26 : decode cX8_deaf 26 = .ok (.getfield 343, 3) := by decide +kernel
theorem dX8_deaf_29 : decode cX8_deaf 29 = .ok (.iconst 1, 1) := by decide +kernel
theorem dX8_deaf_30 : decode cX8_deaf 30 = .ok (.iload_n 1, 1) := by decide +kernel
theorem dX8_deaf_31 : decode cX8_deaf 31 = .ok (.ishl, 1) := by decide +kernel
theorem dX8_deaf_32 : decode cX8_deaf 32 = .ok (.ixor, 1) := by decide +kernel
theorem dX8_deaf_33 : decode cX8_deaf 33 = .ok (.putfield 343, 3) := by decide +kernel
theorem dX8_deaf_36 : decode cX8_deaf 36 = .ok (.aload_n 0, 1) := by decide +kernel
theorem dX8_deaf_37 : decode cX8_deaf 37 = .ok (.invokevirtual 398, 3) := by decide +kernel
theorem dX8_deaf_40 : decode cX8_deaf 40 = .ok (.ireturn, 1) := by decide +kernel
theorem dX8_soonest_0 : decode cX8_soonest 0 = .ok (.aload_n 0, 1) := by decide +kernel
theorem dX8_soonest_1 : decode cX8_soonest 1 = .ok (.iconst 0, 1) := by decide +kernel
theorem dX8_soonest_2 : decode cX8_soonest 2 = .ok (.putfield 150, 3) := by decide +kernel
theorem dX8_soonest_5 : decode cX8_soonest 5 = .ok (.iload_n 1, 1) := by decide +kernel
theorem dX8_soonest_6 : decode cX8_soonest 6 = .ok (.ifCond .lt 8, 3) := by decide +kernel
theorem dX8_soonest_9 : decode cX8_soonest 9 = .ok (.iload_n 1, 1) := by decide +kernel
theorem dX8_soonest_10 : decode cX8_soonest 10 = .ok (.iconst 1, 1) := by decide +kernel
theorem dX8_soonest_11 : decode cX8_soonest 11 = .ok (.if_icmp .le 9, 3) := by decide +kernel
theorem dX8_soonest_14 : decode cX8_soonest 14 = .ok (.aload_n 0, 1) := by decide +kernel
theorem dX8_soonest_15 : decode cX8_soonest 15 = .ok (.iconst 1, 1) := by decide +kernel
theorem dX8_soonest_16 : decode cX8_soonest 16 = .ok (.invokevirtual 298, 3) := by decide +kernel
theorem dX8_soonest_19 : decode cX8_soonest 19 = .ok (.ireturn, 1) := by decide +kernel
theorem dX8_soonest_20 : decode cX8_soonest 20 = .ok (.aload_n 0, 1) := by decide +kernel
theorem dX8_soonest_21 : decode cX8_soonest 21 = .ok (.invokevirtual 410, 3) := by decide +kernel
theorem dX8_soonest_24 : decode cX8_soonest 24 = .ok (.pop, 1) := by decide +kernel
theorem dX8_soonest_25 : decode cX8_soonest 25 = .ok (.ldc 186, 2) := by decide +kernel
theorem dX8_soonest_27 : decode cX8_soonest 27 = .ok (.istore_n 2, 1) := by decide +kernel
theorem dX8_soonest_28 : decode cX8_soonest 28 = .ok (.iconst (-1), 1) := by decide +kernel
theorem dX8_soonest_29 : decode cX8_soonest 29 = .ok (.istore_n 3, 1) := by decide +kernel
theorem dX8_soonest_30 : decode cX8_soonest 30 = .ok (.iconst 0, 1) := by decide +kernel
theorem dX8_soonest_31 : decode cX8_soonest 31 = .ok (.istore 4, 2) := by decide +kernel
theorem dX8_soonest_33 : decode cX8_soonest 33 = .ok (.iload 4, 2) := by decide +kernel
theorem dX8_soonest_35 : decode cX8_soonest 35 = .ok (.aload_n 0, 1) := by decide +kernel
theorem dX8_soonest_36 : decode cX8_soonest 36 = .ok (.getfield 34, 3) := by decide +kernel
theorem dX8_soonest_39 : decode cX8_soonest 39 = .ok (.iconst 5, 1) := by decide +kernel
theorem dX8_soonest_40 : decode cX8_soonest 40 = .ok (.iaload, 1) := by decide +kernel
theorem dX8_soonest_41 : decode cX8_soonest 41 = .ok (.if_icmp .ge 36, 3) := by decide +kernel
theorem dX8_soonest_44 : decode cX8_soonest 44 = .ok (.iload_n 2, 1) := by decide +kernel
theorem dX8_soonest_45 : decode cX8_soonest 45 = .ok (.aload_n 0, 1) := by decide +kernel
theorem dX8_soonest_46 : decode cX8_soonest 46 = .ok (.getfield 117, 3) := by decide +kernel
theorem dX8_soonest_49 : decode cX8_soonest 49 = .ok (.iload 4, 2) := by decide +kernel
theorem dX8_soonest_51 : decode cX8_soonest 51 = .ok (.iaload, 1) := by decide +kernel
theorem dX8_soonest_52 : decode cX8_soonest 52 = .ok (.invokestatic 187, 3) := by decide +kernel
theorem dX8_soonest_55 : decode cX8_soonest 55 = .ok (.istore_n 2, 1) := by decide +kernel
theorem dX8_soonest_56 : decode cX8_soonest 56 = .ok (.iload_n 3, 1) := by decide +kernel
theorem dX8_soonest_57 : decode cX8_soonest 57 = .ok (.aload_n 0, 1) := by decide +kernel
theorem dX8_soonest_58 : decode cX8_soonest 58 = .ok (.getfield 117, 3) := by decide +kernel
theorem dX8_soonest_61 : decode cX8_soonest 61 = .ok (.iload 4, 2) := by decide +kernel
theorem dX8_soonest_63 : decode cX8_soonest 63 = .ok (.iaload, 1) := by decide +kernel
theorem dX8_soonest_64 : decode cX8_soonest 64 = .ok (.invokestatic 416, 3) := by decide +kernel
theorem dX8_soonest_67 : decode cX8_soonest 67 = .ok (.invokestatic 378, 3) := by decide +kernel
theorem dX8_soonest_70 : decode cX8_soonest 70 = .ok (.istore_n 3, 1) := by decide +kernel
theorem dX8_soonest_71 : decode cX8_soonest 71 = .ok (.iinc 4 1, 3) := by decide +kernel
theorem dX8_soonest_74 : decode cX8_soonest 74 = .ok (.goto (-41), 3) := by decide +kernel
theorem dX8_soonest_77 : decode cX8_soonest 77 = .ok (.iload_n 1, 1) := by decide +kernel
theorem dX8_soonest_78 : decode cX8_soonest 78 = .ok (.ifCond .ne 10, 3) := by decide +kernel
theorem dX8_soonest_81 : decode cX8_soonest 81 = .ok (.iload_n 2, 1) := by decide +kernel
theorem dX8_soonest_82 : decode cX8_soonest 82 = .ok (.invokestatic 416, 3) := by decide +kernel
theorem dX8_soonest_85 : decode cX8_soonest 85 = .ok (.goto 4, 3) := by decide +kernel
theorem dX8_soonest_88 : decode cX8_soonest 88 = .ok (.iload_n 3, 1) := by decide +kernel
theorem dX8_soonest_89 : decode cX8_soonest 89 = .ok (.ireturn, 1) := by decide +kernel
theorem dX8_see_0 : decode cX8_see 0 = .ok (.aload_n 0, 1) := by decide +kernel
theorem dX8_see_1 : decode cX8_see 1 = .ok (.iconst 0, 1) := by decide +kernel
theorem dX8_see_2 : decode cX8_see 2 = .ok (.putfield 150, 3) := by decide +kernel
theorem dX8_see_5 : decode cX8_see 5 = .ok (.aload_n 0, 1) := by decide +kernel
theorem dX8_see_6 : decode cX8_see 6 = .ok (.iload_n 1, 1) := by decide +kernel
theorem dX8_see_7 : decode cX8_see 7 = .ok (.invokevirtual 424, 3) := by decide +kernel
theorem dX8_see_10 : decode cX8_see 10 = .ok (.ifCond .eq 11, 3) := by decide +kernel
theorem dX8_see_13 : decode cX8_see 13 = .ok (.aload_n 0, 1) := by decide +kernel
theorem dX8_see_14 : decode cX8_see 14 = .ok (.iload_n 2, 1) := by decide +kernel
theorem dX8_see_15 : decode cX8_see 15 = .ok (.invokevirtual 419, 3) := by decide +kernel
theorem dX8_see_18 : decode cX8_see 18 = .ok (.ifCond .ne 9, 3) := by decide +kernel
theorem dX8_see_21 : decode cX8_see 21 = .ok (.aload_n 0, 1) := by decide +kernel
theorem dX8_see_22 : decode cX8_see 22 = .ok (.iconst 1, 1) := by decide +kernel
theorem dX8_see_23 : decode cX8_see 23 = .ok (.invokevirtual 298, 3) := by decide +kernel
theorem dX8_see_26 : decode cX8_see 26 = .ok (.ireturn, 1) := by decide +kernel
theorem dX8_see_27 : decode cX8_see 27 = .ok (.aload_n 0, 1) := by decide +kernel
theorem dX8_see_28 : decode cX8_see 28 = .ok (.getfield 326, 3) := by decide +kernel
theorem dX8_see_31 : decode cX8_see 31 = .ok (.bipush 8, 2) := by decide +kernel
theorem dX8_see_33 : decode cX8_see 33 = .ok (.if_icmp .ne 9, 3) := by decide +kernel
theorem dX8_see_36 : decode cX8_see 36 = .ok (.aload_n 0, 1) := by decide +kernel
theorem dX8_see_37 : decode cX8_see 37 = .ok (.iconst 2, 1) := by decide +kernel
theorem dX8_see_38 : decode cX8_see 38 = .ok (.invokevirtual 435, 3) := by decide +kernel
theorem dX8_see_41 : decode cX8_see 41 = .ok (.ireturn, 1) := by decide +kernel
theorem dX8_see_42 : decode cX8_see 42 = .ok (.aload_n 0, 1) := by decide +kernel
theorem dX8_see_43 : decode cX8_see 43 = .ok (.getfield 123, 3) := by decide +kernel
theorem dX8_see_46 : decode cX8_see 46 = .ok (.aload_n 0, 1) := by decide +kernel
theorem dX8_see_47 : decode cX8_see 47 = .ok (.getfield 326, 3) := by decide +kernel
theorem dX8_see_50 : decode cX8_see 50 = .ok (.iload_n 1, 1) := by decide +kernel
theorem dX8_see_51 : decode cX8_see 51 = .ok (.iastore, 1) := by decide +kernel
theorem dX8_see_52 : decode cX8_see 52 = .ok (.aload_n 0, 1) := by decide +kernel
theorem dX8_see_53 : decode cX8_see 53 = .ok (.getfield 126, 3) := by decide +kernel
theorem dX8_see_56 : decode cX8_see 56 = .ok (.aload_n 0, 1) := by decide +kernel
theorem dX8_see_57 : decode cX8_see 57 = .ok (.getfield 326, 3) := by decide +kernel
theorem dX8_see_60 : decode cX8_see 60 = .ok (.iload_n 2, 1) := by decide +kernel
theorem dX8_see_61 : decode cX8_see 61 = .ok (.iastore, 1) := by decide +kernel
theorem dX8_see_62 : decode cX8_see 62 = .ok (.aload_n 0, 1) := by decide +kernel
theorem dX8_see_63 : decode cX8_see 63 = .ok (.getfield 129, 3) := by decide +kernel
theorem dX8_see_66 : decode cX8_see 66 = .ok (.aload_n 0, 1) := by decide +kernel
theorem dX8_see_67 : decode cX8_see 67 = .ok (.getfield 326, 3) := by decide +kernel
theorem dX8_see_70 : decode cX8_see 70 = .ok (.iload_n 3, 1) := by decide +kernel
theorem dX8_see_71 : decode cX8_see 71 = .ok (.ifCond .eq 7, 3) := by decide +kernel
theorem dX8_see_74 : decode cX8_see 74 = .ok (.iconst 1, 1) := by decide +kernel
theorem dX8_see_75 : decode cX8_see 75 = .ok (.goto 4, 3) := by decide +kernel
theorem dX8_see_78 : decode cX8_see 78 = .ok (.iconst 0, 1) := by decide +kernel
theorem dX8_see_79 : decode cX8_see 79 = .ok (.iastore, 1) := by decide +kernel
theorem dX8_see_80 : decode cX8_see 80 = .ok (.aload_n 0, 1) := by decide +kernel
theorem dX8_see_81 : decode cX8_see 81 = .ok (.dup, 1) := by decide +kernel
theorem dX8_see_82 : decode cX8_see 82 = .ok (.getfield 326, 3) := by decide +kernel
theorem dX8_see_85 : decode cX8_see 85 = .ok (.iconst 1, 1) := by decide +kernel
theorem dX8_see_86 : decode cX8_see 86 = .ok (.iadd, 1) := by decide +kernel
theorem dX8_see_87 : decode cX8_see 87 = .ok (.putfield 326, 3) := by decide +kernel
theorem dX8_see_90 : decode cX8_see 90 = .ok (.aload_n 0, 1) := by decide +kernel
theorem dX8_see_91 : decode cX8_see 91 = .ok (.getfield 326, 3) := by decide +kernel
theorem dX8_see_94 : decode cX8_see 94 = .ok (.ireturn, 1) := by decide +kernel
def f_X8_flood_51   (I : Mem) : Option (Int32 × Mem) :=
  (f_X8_refuse I (1 : Int32)).bind fun y1 =>
  some (y1.1, y1.2)
theorem b_X8_flood_51 (X : CX) (Q : State → Prop) {I : Mem} {P : PMem} {O : Nat → Int64} {D : Bool} {n : Nat} {r : (Int32 × Mem)}  (h : f_X8_flood_51 I = some r) (E : EndR X cX8_flood RX8 4 (some .int) 4 n (some (.inl r.1)) r.2 P O D Q) : Here X cX8_flood RX8 4 (some .int) 4 n 51 [some (.inr (.inr (8, 0, 0))), none, none, none] [] I P O D n Q := by
  unfold f_X8_flood_51 at h
  refine h_aload_n dX8_flood_51 rfl ?_
  refine h_iconst (1 : Int32) dX8_flood_52 k_iconst_1 ?_
  obtain ⟨y1, hh1, h⟩ := obd_some h
  refine h_cVi [.inl (1 : Int32)] (m_X8_refuse  hh1) cw_X8_435 dX8_flood_53 rfl ok_8 (by decide) rfl (Or.inr rfl) rfl ?_
  cases h
  exact h_iret dX8_flood_56 rfl E
def f_X8_flood   (I : Mem) (v1 : Int32) (v2 : Int32) (v3 : Int32) : Option (Int32 × Mem) :=
  bnd (upd4 I 8 0 0 2 (0 : Int32)) fun I1' =>
  (f_X8_isTown I1' v1).bind fun y1 =>
  if y1 = 0 then ((f_X8_fail I1' (1 : Int32)).bind fun y6 =>
  some (y6.1, y6.2)) else (if (I1' 8 0 0 32) = (4 : Int32) then (f_X8_flood_51 I1') else ((f_X8_isIn I1' v2.toInt64 (0 : Int64) (99 : Int64)).bind fun y2 =>
  if y2 = 0 then (f_X8_flood_51 I1') else ((f_X8_isIn I1' v3.toInt64 (0 : Int64) (20 : Int64)).bind fun y3 =>
  if y3 = 0 then (f_X8_flood_51 I1') else ((f_X8_keep I1').bind fun y4 =>
  (f_X8_putRow 64 0 0 y4 (y4 8 0 0 32) v1 v2 v3).bind fun y5 =>
  bnd (upd4 y5 8 0 0 32 ((y5 8 0 0 32) + (1 : Int32))) fun I2' =>
  some ((I2' 8 0 0 32), I2')))))
theorem b_X8_flood (X : CX) (Q : State → Prop) {I : Mem} {P : PMem} {O : Nat → Int64} {D : Bool} {n : Nat} {v1 : Int32} {v2 : Int32} {v3 : Int32} {r : (Int32 × Mem)}  (h : f_X8_flood I v1 v2 v3 = some r) (E : EndR X cX8_flood RX8 4 (some .int) 4 n (some (.inl r.1)) r.2 P O D Q) : Here X cX8_flood RX8 4 (some .int) 4 n 0 [some (.inr (.inr (8, 0, 0))), some (.inl v1), some (.inl v2), some (.inl v3)] [] I P O D n Q := by
  unfold f_X8_flood at h
  refine h_aload_n dX8_flood_0 rfl ?_
  refine h_iconst (0 : Int32) dX8_flood_1 k_iconst_0 ?_
  obtain ⟨I1', e1, h⟩ := bnd_some h
  refine p_X8_150  dX8_flood_2 ?_
  refine h_nmI e1 ?_
  refine h_aload_n dX8_flood_5 rfl ?_
  refine h_iload_n dX8_flood_6 rfl ?_
  obtain ⟨y1, hh1, h⟩ := obd_some h
  refine h_cVi [.inl v1] (m_X8_isTown  hh1) cw_X8_413 dX8_flood_7 rfl ok_8 (by decide) rfl (Or.inr rfl) rfl ?_
  refine h_if_ne (tgt := 19) dX8_flood_10 (by decide) (fun q1 => ?_) (fun q1 => ?_)
  · rw [if_neg q1] at h
    refine h_aload_n dX8_flood_19 rfl ?_
    refine g_X8_320  dX8_flood_20 ?_
    refine h_iconst (4 : Int32) dX8_flood_23 k_iconst_4 ?_
    refine h_icmp_eq (tgt := 51) dX8_flood_24 (by decide) (fun q2 => ?_) (fun q2 => ?_)
    · rw [if_pos q2] at h
      exact h_mask [true, false, false, false] (b_X8_flood_51 X Q  h E)
    · rw [if_neg q2] at h
      refine h_iload_n dX8_flood_27 rfl ?_
      refine h_i2l dX8_flood_28 ?_
      refine h_lconst 0 dX8_flood_29 rfl ?_
      refine h_ldc2 99 dX8_flood_30 kl_X8_441 ?_
      obtain ⟨y2, hh2, h⟩ := obd_some h
      refine h_cSi [.inr (.inl v2.toInt64), .inr (.inl (0 : Int64)), .inr (.inl (99 : Int64))] (m_X8_isIn  hh2) cs_X8_153 dX8_flood_33 rfl (by decide) rfl (Or.inr rfl) rfl ?_
      refine h_if_eq (tgt := 51) dX8_flood_36 (by decide) (fun q3 => ?_) (fun q3 => ?_)
      · rw [if_pos q3] at h
        exact h_mask [true, false, false, false] (b_X8_flood_51 X Q  h E)
      · rw [if_neg q3] at h
        refine h_iload_n dX8_flood_39 rfl ?_
        refine h_i2l dX8_flood_40 ?_
        refine h_lconst 0 dX8_flood_41 rfl ?_
        refine h_ldc2 20 dX8_flood_42 kl_X8_447 ?_
        obtain ⟨y3, hh3, h⟩ := obd_some h
        refine h_cSi [.inr (.inl v3.toInt64), .inr (.inl (0 : Int64)), .inr (.inl (20 : Int64))] (m_X8_isIn  hh3) cs_X8_153 dX8_flood_45 rfl (by decide) rfl (Or.inr rfl) rfl ?_
        refine h_if_ne (tgt := 57) dX8_flood_48 (by decide) (fun q4 => ?_) (fun q4 => ?_)
        · rw [if_neg q4] at h
          refine h_aload_n dX8_flood_57 rfl ?_
          obtain ⟨y4, hh4, h⟩ := obd_some h
          refine h_cVv [] (m_X8_keep  hh4) cw_X8_438 dX8_flood_58 rfl ok_8 (by decide) rfl (Or.inr rfl) rfl ?_
          refine h_aload_n dX8_flood_61 rfl ?_
          refine g_X8_79  dX8_flood_62 ?_
          refine h_aload_n dX8_flood_65 rfl ?_
          refine g_X8_320  dX8_flood_66 ?_
          refine h_iload_n dX8_flood_69 rfl ?_
          refine h_iload_n dX8_flood_70 rfl ?_
          refine h_iload_n dX8_flood_71 rfl ?_
          obtain ⟨y5, hh5, h⟩ := obd_some h
          refine h_cSv [.inr (.inr (64, 0, 0)), .inl (y4 8 0 0 32), .inl v1, .inl v2, .inl v3] (m_X8_putRow rfl hh5) cs_X8_443 dX8_flood_72 rfl (by decide) rfl (Or.inr rfl) rfl ?_
          refine h_aload_n dX8_flood_75 rfl ?_
          refine h_dup dX8_flood_76 (fun _ => rfl) ?_
          refine g_X8_320  dX8_flood_77 ?_
          refine h_iconst (1 : Int32) dX8_flood_80 k_iconst_1 ?_
          refine h_iadd dX8_flood_81 ?_
          obtain ⟨I2', e2, h⟩ := bnd_some h
          refine p_X8_320  dX8_flood_82 ?_
          refine h_nmI e2 ?_
          refine h_aload_n dX8_flood_85 rfl ?_
          refine g_X8_320  dX8_flood_86 ?_
          cases h
          exact h_iret dX8_flood_89 rfl E
        · rw [if_pos q4] at h
          exact h_mask [true, false, false, false] (b_X8_flood_51 X Q  h E)
  · rw [if_pos q1] at h
    refine h_aload_n dX8_flood_13 rfl ?_
    refine h_iconst (1 : Int32) dX8_flood_14 k_iconst_1 ?_
    obtain ⟨y6, hh6, h⟩ := obd_some h
    refine h_cVi [.inl (1 : Int32)] (m_X8_fail  hh6) cw_X8_298 dX8_flood_15 rfl ok_8 (by decide) rfl (Or.inr rfl) rfl ?_
    cases h
    exact h_iret dX8_flood_18 rfl E
theorem m_X8_flood {I : Mem} {P : PMem} {O : Nat → Int64} {D : Bool} {n : Nat} {v1 : Int32} {v2 : Int32} {v3 : Int32} {r : (Int32 × Mem)}  (h : f_X8_flood I v1 v2 v3 = some r) : MethR yX8_flood cX8_flood 4 (some .int) 4 [.inr (.inr (8, 0, 0)), .inl v1, .inl v2, .inl v3] I P O D n (some (.inl r.1)) r.2 P O D n := meth_R (Nat.le_refl _) (by decide) rfl (Nat.le_of_ble_eq_true rfl) rfl (fun X Q E => b_X8_flood X Q  h E)
def f_X8_undo   (I : Mem) : Option (Int32 × Mem) :=
  bnd (upd4 I 8 0 0 2 (0 : Int32)) fun I1' =>
  if (I1' 8 0 0 33) = 0 then (some ((-1 : Int32), I1')) else (bnd (upd4 I1' 8 0 0 33 ((I1' 8 0 0 33) - (1 : Int32))) fun I2' =>
  (f_X8_unpack 65 0 0 I2' ((45 : Int32) * (I2' 8 0 0 33))).bind fun y1 =>
  some ((y1 8 0 0 33), y1))
theorem b_X8_undo (X : CX) (Q : State → Prop) {I : Mem} {P : PMem} {O : Nat → Int64} {D : Bool} {n : Nat} {r : (Int32 × Mem)}  (h : f_X8_undo I = some r) (E : EndR X cX8_undo RX8 1 (some .int) 3 n (some (.inl r.1)) r.2 P O D Q) : Here X cX8_undo RX8 1 (some .int) 3 n 0 [some (.inr (.inr (8, 0, 0)))] [] I P O D n Q := by
  unfold f_X8_undo at h
  refine h_aload_n dX8_undo_0 rfl ?_
  refine h_iconst (0 : Int32) dX8_undo_1 k_iconst_0 ?_
  obtain ⟨I1', e1, h⟩ := bnd_some h
  refine p_X8_150  dX8_undo_2 ?_
  refine h_nmI e1 ?_
  refine h_aload_n dX8_undo_5 rfl ?_
  refine g_X8_323  dX8_undo_6 ?_
  refine h_if_ne (tgt := 14) dX8_undo_9 (by decide) (fun q1 => ?_) (fun q1 => ?_)
  · rw [if_neg q1] at h
    refine h_aload_n dX8_undo_14 rfl ?_
    refine h_dup dX8_undo_15 (fun _ => rfl) ?_
    refine g_X8_323  dX8_undo_16 ?_
    refine h_iconst (1 : Int32) dX8_undo_19 k_iconst_1 ?_
    refine h_isub dX8_undo_20 ?_
    obtain ⟨I2', e2, h⟩ := bnd_some h
    refine p_X8_323  dX8_undo_21 ?_
    refine h_nmI e2 ?_
    refine h_aload_n dX8_undo_24 rfl ?_
    refine h_aload_n dX8_undo_25 rfl ?_
    refine g_X8_82  dX8_undo_26 ?_
    refine h_bipush (45 : Int32) dX8_undo_29 k_bipush_45 ?_
    refine h_aload_n dX8_undo_31 rfl ?_
    refine g_X8_323  dX8_undo_32 ?_
    refine h_imul dX8_undo_35 ?_
    obtain ⟨y1, hh1, h⟩ := obd_some h
    refine h_cVv [.inr (.inr (65, 0, 0)), .inl ((45 : Int32) * (I2' 8 0 0 33))] (m_X8_unpack rfl hh1) cw_X8_449 dX8_undo_36 rfl ok_8 (by decide) rfl (Or.inr rfl) rfl ?_
    refine h_aload_n dX8_undo_39 rfl ?_
    refine g_X8_323  dX8_undo_40 ?_
    cases h
    exact h_iret dX8_undo_43 rfl E
  · rw [if_pos q1] at h
    refine h_iconst (-1 : Int32) dX8_undo_12 k_iconst_m1 ?_
    cases h
    exact h_iret dX8_undo_13 rfl E
theorem m_X8_undo {I : Mem} {P : PMem} {O : Nat → Int64} {D : Bool} {n : Nat}  {r : (Int32 × Mem)}  (h : f_X8_undo I = some r) : MethR yX8_undo cX8_undo 1 (some .int) 3 [.inr (.inr (8, 0, 0))] I P O D n (some (.inl r.1)) r.2 P O D n := meth_R (Nat.le_refl _) (by decide) rfl (Nat.le_of_ble_eq_true rfl) rfl (fun X Q E => b_X8_undo X Q  h E)
def f_X8_burn_31   : Nat → Mem → Int32 → Int32 → Int32 → Int32 → Option (Int32 × Mem)
  | 0, _, _, _, _, _ => none
  | fu + 1, I, v1, v2, v3, v4 =>
    if (I 50 0 0 0) ≤ v4 then (if v1 = 0 then (some (v2, I)) else (some (v3, I))) else (if ((jshr (I 8 0 0 29) v4) &&& (1 : Int32)) = 0 then ((f_X8_burn_31 fu) I v1 v2 v3 (v4 + (1 : Int32))) else (bnd (upd4 I 8 0 0 29 ((I 8 0 0 29) ^^^ (jshl (1 : Int32) v4))) fun I1' =>
    (f_X8_tell I1').bind fun y1 =>
    bnd (upd4 y1.2 8 0 0 29 ((y1.2 8 0 0 29) ^^^ (jshl (1 : Int32) v4))) fun I2' =>
    if v3 < y1.1 then ((f_X8_burn_31 fu) I2' v1 v4 y1.1 (v4 + (1 : Int32))) else ((f_X8_burn_31 fu) I2' v1 v2 v3 (v4 + (1 : Int32)))))
theorem b_X8_burn_31 (X : CX) (Q : State → Prop) {P : PMem} {O : Nat → Int64} {D : Bool} {n : Nat} {r : (Int32 × Mem)}  : ∀ (fu : Nat) {I : Mem} {v1 : Int32} {v2 : Int32} {v3 : Int32} {v4 : Int32}, f_X8_burn_31 fu I v1 v2 v3 v4 = some r → EndR X cX8_burn RX8 6 (some .int) 9 n (some (.inl r.1)) r.2 P O D Q → Here X cX8_burn RX8 6 (some .int) 9 n 31 [some (.inr (.inr (8, 0, 0))), some (.inl v1), some (.inl v2), some (.inl v3), some (.inl v4), none] [] I P O D n Q := by
  intro fu
  induction fu with
  | zero => intro I v1 v2 v3 v4 h E; cases h
  | succ fu ih =>
  intro I v1 v2 v3 v4 h E
  have H31 : ∀ (I : Mem) (v1 : Int32) (v2 : Int32) (v3 : Int32) (v4 : Int32), f_X8_burn_31 fu I v1 v2 v3 v4 = some r → Here X cX8_burn RX8 6 (some .int) 9 n 31 [some (.inr (.inr (8, 0, 0))), some (.inl v1), some (.inl v2), some (.inl v3), some (.inl v4), none] [] I P O D n Q := fun _ _ _ _ _ b => ih b E
  simp only [f_X8_burn_31] at h
  refine h_iload dX8_burn_31 rfl ?_
  refine h_aload_n dX8_burn_33 rfl ?_
  refine g_X8_34  dX8_burn_34 ?_
  refine h_iconst (0 : Int32) dX8_burn_37 k_iconst_0 ?_
  refine al_50  0 cl_0 dX8_burn_38 rfl ?_
  refine h_icmp_ge (tgt := 110) dX8_burn_39 (by decide) (fun q1 => ?_) (fun q1 => ?_)
  · rw [if_pos q1] at h
    refine h_iload_n dX8_burn_110 rfl ?_
    refine h_if_ne (tgt := 118) dX8_burn_111 (by decide) (fun q2 => ?_) (fun q2 => ?_)
    · rw [if_neg q2] at h
      refine h_iload_n dX8_burn_118 rfl ?_
      cases h
      exact h_iret dX8_burn_119 rfl E
    · rw [if_pos q2] at h
      refine h_iload_n dX8_burn_114 rfl ?_
      refine h_goto (tgt := 119) dX8_burn_115 (by decide) ?_
      cases h
      exact h_iret dX8_burn_119 rfl E
  · rw [if_neg q1] at h
    refine h_aload_n dX8_burn_42 rfl ?_
    refine g_X8_311  dX8_burn_43 ?_
    refine h_iload dX8_burn_46 rfl ?_
    refine h_shr dX8_burn_48 ?_
    refine h_iconst (1 : Int32) dX8_burn_49 k_iconst_1 ?_
    refine h_iand dX8_burn_50 ?_
    refine h_if_ne (tgt := 57) dX8_burn_51 (by decide) (fun q3 => ?_) (fun q3 => ?_)
    · rw [if_neg q3] at h
      refine h_aload_n dX8_burn_57 rfl ?_
      refine h_dup dX8_burn_58 (fun _ => rfl) ?_
      refine g_X8_311  dX8_burn_59 ?_
      refine h_iconst (1 : Int32) dX8_burn_62 k_iconst_1 ?_
      refine h_iload dX8_burn_63 rfl ?_
      refine h_shl dX8_burn_65 ?_
      refine h_ixor dX8_burn_66 ?_
      obtain ⟨I1', e1, h⟩ := bnd_some h
      refine p_X8_311  dX8_burn_67 ?_
      refine h_nmI e1 ?_
      refine h_aload_n dX8_burn_70 rfl ?_
      obtain ⟨y1, hh1, h⟩ := obd_some h
      refine h_cVi [] (m_X8_tell  hh1) cw_X8_407 dX8_burn_71 rfl ok_8 (by decide) rfl (Or.inr rfl) rfl ?_
      refine h_istore dX8_burn_74 (by decide) rfl ?_
      refine h_aload_n dX8_burn_76 rfl ?_
      refine h_dup dX8_burn_77 (fun _ => rfl) ?_
      refine g_X8_311  dX8_burn_78 ?_
      refine h_iconst (1 : Int32) dX8_burn_81 k_iconst_1 ?_
      refine h_iload dX8_burn_82 rfl ?_
      refine h_shl dX8_burn_84 ?_
      refine h_ixor dX8_burn_85 ?_
      obtain ⟨I2', e2, h⟩ := bnd_some h
      refine p_X8_311  dX8_burn_86 ?_
      refine h_nmI e2 ?_
      refine h_iload dX8_burn_89 rfl ?_
      refine h_iload_n dX8_burn_91 rfl ?_
      refine h_icmp_gt (tgt := 98) dX8_burn_92 (by decide) (fun q4 => ?_) (fun q4 => ?_)
      · rw [if_pos q4] at h
        refine h_iload dX8_burn_98 rfl ?_
        refine h_istore_n dX8_burn_100 (by decide) rfl ?_
        refine h_iload dX8_burn_101 rfl ?_
        refine h_istore_n dX8_burn_103 (by decide) rfl ?_
        refine h_iinc (1 : Int32) dX8_burn_104 rfl k_iinc_1 (by decide) rfl ?_
        refine h_goto (tgt := 31) dX8_burn_107 (by decide) ?_
        exact h_mask [true, true, true, true, true, false] (H31 _ _ _ _ _ h)
      · rw [if_neg q4] at h
        refine h_goto (tgt := 104) dX8_burn_95 (by decide) ?_
        refine h_iinc (1 : Int32) dX8_burn_104 rfl k_iinc_1 (by decide) rfl ?_
        refine h_goto (tgt := 31) dX8_burn_107 (by decide) ?_
        exact h_mask [true, true, true, true, true, false] (H31 _ _ _ _ _ h)
    · rw [if_pos q3] at h
      refine h_goto (tgt := 104) dX8_burn_54 (by decide) ?_
      refine h_iinc (1 : Int32) dX8_burn_104 rfl k_iinc_1 (by decide) rfl ?_
      refine h_goto (tgt := 31) dX8_burn_107 (by decide) ?_
      exact (H31 _ _ _ _ _ h)
def f_X8_burn_14   (I : Mem) : Option (Int32 × Mem) :=
  (f_X8_fail I (1 : Int32)).bind fun y1 =>
  some (y1.1, y1.2)
theorem b_X8_burn_14 (X : CX) (Q : State → Prop) {I : Mem} {P : PMem} {O : Nat → Int64} {D : Bool} {n : Nat} {r : (Int32 × Mem)}  (h : f_X8_burn_14 I = some r) (E : EndR X cX8_burn RX8 6 (some .int) 9 n (some (.inl r.1)) r.2 P O D Q) : Here X cX8_burn RX8 6 (some .int) 9 n 14 [some (.inr (.inr (8, 0, 0))), none, none, none, none, none] [] I P O D n Q := by
  unfold f_X8_burn_14 at h
  refine h_aload_n dX8_burn_14 rfl ?_
  refine h_iconst (1 : Int32) dX8_burn_15 k_iconst_1 ?_
  obtain ⟨y1, hh1, h⟩ := obd_some h
  refine h_cVi [.inl (1 : Int32)] (m_X8_fail  hh1) cw_X8_298 dX8_burn_16 rfl ok_8 (by decide) rfl (Or.inr rfl) rfl ?_
  cases h
  exact h_iret dX8_burn_19 rfl E
def f_X8_burn   (I : Mem) (v1 : Int32) : Option (Int32 × Mem) :=
  bnd (upd4 I 8 0 0 2 (0 : Int32)) fun I1' =>
  if v1 < 0 then (f_X8_burn_14 I1') else (if v1 ≤ (1 : Int32) then ((f_X8_set I1').bind fun y1 =>
  f_X8_burn_31 FU y1 v1 (-1 : Int32) (-1 : Int32) (0 : Int32)) else (f_X8_burn_14 I1'))
theorem b_X8_burn (X : CX) (Q : State → Prop) {I : Mem} {P : PMem} {O : Nat → Int64} {D : Bool} {n : Nat} {v1 : Int32} {r : (Int32 × Mem)}  (h : f_X8_burn I v1 = some r) (E : EndR X cX8_burn RX8 6 (some .int) 9 n (some (.inl r.1)) r.2 P O D Q) : Here X cX8_burn RX8 6 (some .int) 9 n 0 [some (.inr (.inr (8, 0, 0))), some (.inl v1), none, none, none, none] [] I P O D n Q := by
  unfold f_X8_burn at h
  refine h_aload_n dX8_burn_0 rfl ?_
  refine h_iconst (0 : Int32) dX8_burn_1 k_iconst_0 ?_
  obtain ⟨I1', e1, h⟩ := bnd_some h
  refine p_X8_150  dX8_burn_2 ?_
  refine h_nmI e1 ?_
  refine h_iload_n dX8_burn_5 rfl ?_
  refine h_if_lt (tgt := 14) dX8_burn_6 (by decide) (fun q1 => ?_) (fun q1 => ?_)
  · rw [if_pos q1] at h
    exact h_mask [true, false, false, false, false, false] (b_X8_burn_14 X Q  h E)
  · rw [if_neg q1] at h
    refine h_iload_n dX8_burn_9 rfl ?_
    refine h_iconst (1 : Int32) dX8_burn_10 k_iconst_1 ?_
    refine h_icmp_le (tgt := 20) dX8_burn_11 (by decide) (fun q2 => ?_) (fun q2 => ?_)
    · rw [if_pos q2] at h
      refine h_aload_n dX8_burn_20 rfl ?_
      obtain ⟨y1, hh1, h⟩ := obd_some h
      refine h_cVv [] (m_X8_set  hh1) cw_X8_404 dX8_burn_21 rfl ok_8 (by decide) rfl (Or.inr rfl) rfl ?_
      refine h_iconst (-1 : Int32) dX8_burn_24 k_iconst_m1 ?_
      refine h_istore_n dX8_burn_25 (by decide) rfl ?_
      refine h_iconst (-1 : Int32) dX8_burn_26 k_iconst_m1 ?_
      refine h_istore_n dX8_burn_27 (by decide) rfl ?_
      refine h_iconst (0 : Int32) dX8_burn_28 k_iconst_0 ?_
      refine h_istore dX8_burn_29 (by decide) rfl ?_
      exact (b_X8_burn_31 X Q FU  h E)
    · rw [if_neg q2] at h
      exact h_mask [true, false, false, false, false, false] (b_X8_burn_14 X Q  h E)
theorem m_X8_burn {I : Mem} {P : PMem} {O : Nat → Int64} {D : Bool} {n : Nat} {v1 : Int32} {r : (Int32 × Mem)}  (h : f_X8_burn I v1 = some r) : MethR yX8_burn cX8_burn 6 (some .int) 9 [.inr (.inr (8, 0, 0)), .inl v1] I P O D n (some (.inl r.1)) r.2 P O D n := meth_R (Nat.le_refl _) (by decide) rfl (Nat.le_of_ble_eq_true rfl) rfl (fun X Q E => b_X8_burn X Q  h E)
def f_X8_when_48   : Nat → Mem → Int32 → Int32 → Int32 → Int32 → Int32 → Int32 → Option (Int32 × Mem)
  | 0, _, _, _, _, _, _, _ => none
  | fu + 1, I, v1, v2, v3, v4, v5, v6 =>
    if (60 : Int32) < v6 then (gd (inb v1 10) <|
    bnd (upd4 I 53 0 0 v1.toNatClampNeg v3) fun I1' =>
    if v2 = 0 then (some (v4, I1')) else (some (v5, I1'))) else (gd (inb v1 10) <|
    bnd (upd4 I 53 0 0 v1.toNatClampNeg v6) fun I2' =>
    (f_X8_tell I2').bind fun y1 =>
    if v5 < y1.1 then ((f_X8_when_48 fu) y1.2 v1 v2 v3 v6 y1.1 (v6 + (1 : Int32))) else ((f_X8_when_48 fu) y1.2 v1 v2 v3 v4 v5 (v6 + (1 : Int32))))
theorem b_X8_when_48 (X : CX) (Q : State → Prop) {P : PMem} {O : Nat → Int64} {D : Bool} {n : Nat} {r : (Int32 × Mem)}  : ∀ (fu : Nat) {I : Mem} {v1 : Int32} {v2 : Int32} {v3 : Int32} {v4 : Int32} {v5 : Int32} {v6 : Int32}, f_X8_when_48 fu I v1 v2 v3 v4 v5 v6 = some r → EndR X cX8_when RX8 8 (some .int) 9 n (some (.inl r.1)) r.2 P O D Q → Here X cX8_when RX8 8 (some .int) 9 n 48 [some (.inr (.inr (8, 0, 0))), some (.inl v1), some (.inl v2), some (.inl v3), some (.inl v4), some (.inl v5), some (.inl v6), none] [] I P O D n Q := by
  intro fu
  induction fu with
  | zero => intro I v1 v2 v3 v4 v5 v6 h E; cases h
  | succ fu ih =>
  intro I v1 v2 v3 v4 v5 v6 h E
  have H48 : ∀ (I : Mem) (v1 : Int32) (v2 : Int32) (v3 : Int32) (v4 : Int32) (v5 : Int32) (v6 : Int32), f_X8_when_48 fu I v1 v2 v3 v4 v5 v6 = some r → Here X cX8_when RX8 8 (some .int) 9 n 48 [some (.inr (.inr (8, 0, 0))), some (.inl v1), some (.inl v2), some (.inl v3), some (.inl v4), some (.inl v5), some (.inl v6), none] [] I P O D n Q := fun _ _ _ _ _ _ _ b => ih b E
  simp only [f_X8_when_48] at h
  refine h_iload dX8_when_48 rfl ?_
  refine h_bipush (60 : Int32) dX8_when_50 k_bipush_60 ?_
  refine h_icmp_gt (tgt := 93) dX8_when_52 (by decide) (fun q1 => ?_) (fun q1 => ?_)
  · rw [if_pos q1] at h
    refine h_aload_n dX8_when_93 rfl ?_
    refine g_X8_44  dX8_when_94 ?_
    refine h_iload_n dX8_when_97 rfl ?_
    refine h_iload_n dX8_when_98 rfl ?_
    obtain ⟨g1, h⟩ := gd_some h
    obtain ⟨I1', e1, h⟩ := bnd_some h
    refine as_53  v1.toNatClampNeg rfl dX8_when_99 g1 ?_
    refine h_nmI e1 ?_
    refine h_iload_n dX8_when_100 rfl ?_
    refine h_if_ne (tgt := 109) dX8_when_101 (by decide) (fun q2 => ?_) (fun q2 => ?_)
    · rw [if_neg q2] at h
      refine h_iload dX8_when_109 rfl ?_
      cases h
      exact h_iret dX8_when_111 rfl E
    · rw [if_pos q2] at h
      refine h_iload dX8_when_104 rfl ?_
      refine h_goto (tgt := 111) dX8_when_106 (by decide) ?_
      cases h
      exact h_iret dX8_when_111 rfl E
  · rw [if_neg q1] at h
    refine h_aload_n dX8_when_55 rfl ?_
    refine g_X8_44  dX8_when_56 ?_
    refine h_iload_n dX8_when_59 rfl ?_
    refine h_iload dX8_when_60 rfl ?_
    obtain ⟨g2, h⟩ := gd_some h
    obtain ⟨I2', e2, h⟩ := bnd_some h
    refine as_53  v1.toNatClampNeg rfl dX8_when_62 g2 ?_
    refine h_nmI e2 ?_
    refine h_aload_n dX8_when_63 rfl ?_
    obtain ⟨y1, hh1, h⟩ := obd_some h
    refine h_cVi [] (m_X8_tell  hh1) cw_X8_407 dX8_when_64 rfl ok_8 (by decide) rfl (Or.inr rfl) rfl ?_
    refine h_istore dX8_when_67 (by decide) rfl ?_
    refine h_iload dX8_when_69 rfl ?_
    refine h_iload dX8_when_71 rfl ?_
    refine h_icmp_gt (tgt := 79) dX8_when_73 (by decide) (fun q3 => ?_) (fun q3 => ?_)
    · rw [if_pos q3] at h
      refine h_iload dX8_when_79 rfl ?_
      refine h_istore dX8_when_81 (by decide) rfl ?_
      refine h_iload dX8_when_83 rfl ?_
      refine h_istore dX8_when_85 (by decide) rfl ?_
      refine h_iinc (1 : Int32) dX8_when_87 rfl k_iinc_1 (by decide) rfl ?_
      refine h_goto (tgt := 48) dX8_when_90 (by decide) ?_
      exact h_mask [true, true, true, true, true, true, true, false] (H48 _ _ _ _ _ _ _ h)
    · rw [if_neg q3] at h
      refine h_goto (tgt := 87) dX8_when_76 (by decide) ?_
      refine h_iinc (1 : Int32) dX8_when_87 rfl k_iinc_1 (by decide) rfl ?_
      refine h_goto (tgt := 48) dX8_when_90 (by decide) ?_
      exact h_mask [true, true, true, true, true, true, true, false] (H48 _ _ _ _ _ _ _ h)
def f_X8_when_22   (I : Mem) : Option (Int32 × Mem) :=
  (f_X8_fail I (1 : Int32)).bind fun y1 =>
  some (y1.1, y1.2)
theorem b_X8_when_22 (X : CX) (Q : State → Prop) {I : Mem} {P : PMem} {O : Nat → Int64} {D : Bool} {n : Nat} {r : (Int32 × Mem)}  (h : f_X8_when_22 I = some r) (E : EndR X cX8_when RX8 8 (some .int) 9 n (some (.inl r.1)) r.2 P O D Q) : Here X cX8_when RX8 8 (some .int) 9 n 22 [some (.inr (.inr (8, 0, 0))), none, none, none, none, none, none, none] [] I P O D n Q := by
  unfold f_X8_when_22 at h
  refine h_aload_n dX8_when_22 rfl ?_
  refine h_iconst (1 : Int32) dX8_when_23 k_iconst_1 ?_
  obtain ⟨y1, hh1, h⟩ := obd_some h
  refine h_cVi [.inl (1 : Int32)] (m_X8_fail  hh1) cw_X8_298 dX8_when_24 rfl ok_8 (by decide) rfl (Or.inr rfl) rfl ?_
  cases h
  exact h_iret dX8_when_27 rfl E
def f_X8_when   (I : Mem) (v1 : Int32) (v2 : Int32) : Option (Int32 × Mem) :=
  bnd (upd4 I 8 0 0 2 (0 : Int32)) fun I1' =>
  (f_X8_isJudge I1' v1).bind fun y1 =>
  if y1 = 0 then (f_X8_when_22 I1') else (if v2 < 0 then (f_X8_when_22 I1') else (if v2 ≤ (1 : Int32) then ((f_X8_set I1').bind fun y2 =>
  gd (inb v1 10) <|
  bnd (y2 53 0 0 v1.toNatClampNeg) fun x1 =>
  f_X8_when_48 FU y2 v1 v2 x1 (-1 : Int32) (-1 : Int32) (0 : Int32)) else (f_X8_when_22 I1')))
theorem b_X8_when (X : CX) (Q : State → Prop) {I : Mem} {P : PMem} {O : Nat → Int64} {D : Bool} {n : Nat} {v1 : Int32} {v2 : Int32} {r : (Int32 × Mem)}  (h : f_X8_when I v1 v2 = some r) (E : EndR X cX8_when RX8 8 (some .int) 9 n (some (.inl r.1)) r.2 P O D Q) : Here X cX8_when RX8 8 (some .int) 9 n 0 [some (.inr (.inr (8, 0, 0))), some (.inl v1), some (.inl v2), none, none, none, none, none] [] I P O D n Q := by
  unfold f_X8_when at h
  refine h_aload_n dX8_when_0 rfl ?_
  refine h_iconst (0 : Int32) dX8_when_1 k_iconst_0 ?_
  obtain ⟨I1', e1, h⟩ := bnd_some h
  refine p_X8_150  dX8_when_2 ?_
  refine h_nmI e1 ?_
  refine h_aload_n dX8_when_5 rfl ?_
  refine h_iload_n dX8_when_6 rfl ?_
  obtain ⟨y1, hh1, h⟩ := obd_some h
  refine h_cVi [.inl v1] (m_X8_isJudge  hh1) cw_X8_419 dX8_when_7 rfl ok_8 (by decide) rfl (Or.inr rfl) rfl ?_
  refine h_if_eq (tgt := 22) dX8_when_10 (by decide) (fun q1 => ?_) (fun q1 => ?_)
  · rw [if_pos q1] at h
    exact h_mask [true, false, false, false, false, false, false, false] (b_X8_when_22 X Q  h E)
  · rw [if_neg q1] at h
    refine h_iload_n dX8_when_13 rfl ?_
    refine h_if_lt (tgt := 22) dX8_when_14 (by decide) (fun q2 => ?_) (fun q2 => ?_)
    · rw [if_pos q2] at h
      exact h_mask [true, false, false, false, false, false, false, false] (b_X8_when_22 X Q  h E)
    · rw [if_neg q2] at h
      refine h_iload_n dX8_when_17 rfl ?_
      refine h_iconst (1 : Int32) dX8_when_18 k_iconst_1 ?_
      refine h_icmp_le (tgt := 28) dX8_when_19 (by decide) (fun q3 => ?_) (fun q3 => ?_)
      · rw [if_pos q3] at h
        refine h_aload_n dX8_when_28 rfl ?_
        obtain ⟨y2, hh2, h⟩ := obd_some h
        refine h_cVv [] (m_X8_set  hh2) cw_X8_404 dX8_when_29 rfl ok_8 (by decide) rfl (Or.inr rfl) rfl ?_
        refine h_aload_n dX8_when_32 rfl ?_
        refine g_X8_44  dX8_when_33 ?_
        refine h_iload_n dX8_when_36 rfl ?_
        obtain ⟨g1, h⟩ := gd_some h
        refine al_53  v1.toNatClampNeg rfl dX8_when_37 g1 ?_
        obtain ⟨x1, e2, h⟩ := bnd_some h
        refine h_nmv e2 ?_
        refine h_istore_n dX8_when_38 (by decide) rfl ?_
        refine h_iconst (-1 : Int32) dX8_when_39 k_iconst_m1 ?_
        refine h_istore dX8_when_40 (by decide) rfl ?_
        refine h_iconst (-1 : Int32) dX8_when_42 k_iconst_m1 ?_
        refine h_istore dX8_when_43 (by decide) rfl ?_
        refine h_iconst (0 : Int32) dX8_when_45 k_iconst_0 ?_
        refine h_istore dX8_when_46 (by decide) rfl ?_
        exact (b_X8_when_48 X Q FU  h E)
      · rw [if_neg q3] at h
        exact h_mask [true, false, false, false, false, false, false, false] (b_X8_when_22 X Q  h E)
theorem m_X8_when {I : Mem} {P : PMem} {O : Nat → Int64} {D : Bool} {n : Nat} {v1 : Int32} {v2 : Int32} {r : (Int32 × Mem)}  (h : f_X8_when I v1 v2 = some r) : MethR yX8_when cX8_when 8 (some .int) 9 [.inr (.inr (8, 0, 0)), .inl v1, .inl v2] I P O D n (some (.inl r.1)) r.2 P O D n := meth_R (Nat.le_refl _) (by decide) rfl (Nat.le_of_ble_eq_true rfl) rfl (fun X Q E => b_X8_when X Q  h E)
def f_X8_round   (I : Mem) (v1 : Int32) : Option (Int32 × Mem) :=
  bnd (upd4 I 8 0 0 2 (0 : Int32)) fun I1' =>
  (f_X8_isJudge I1' v1).bind fun y1 =>
  if y1 = 0 then ((f_X8_fail I1' (1 : Int32)).bind fun y4 =>
  some (y4.1, y4.2)) else ((f_X8_tellNow I1').bind fun y2 =>
  bnd (upd4 y2.2 8 0 0 40 v1) fun I2' =>
  (f_X8_tell I2').bind fun y3 =>
  some ((y3.1 - y2.1), y3.2))
theorem b_X8_round (X : CX) (Q : State → Prop) {I : Mem} {P : PMem} {O : Nat → Int64} {D : Bool} {n : Nat} {v1 : Int32} {r : (Int32 × Mem)}  (h : f_X8_round I v1 = some r) (E : EndR X cX8_round RX8 3 (some .int) 10 n (some (.inl r.1)) r.2 P O D Q) : Here X cX8_round RX8 3 (some .int) 10 n 0 [some (.inr (.inr (8, 0, 0))), some (.inl v1), none] [] I P O D n Q := by
  unfold f_X8_round at h
  refine h_aload_n dX8_round_0 rfl ?_
  refine h_iconst (0 : Int32) dX8_round_1 k_iconst_0 ?_
  obtain ⟨I1', e1, h⟩ := bnd_some h
  refine p_X8_150  dX8_round_2 ?_
  refine h_nmI e1 ?_
  refine h_aload_n dX8_round_5 rfl ?_
  refine h_iload_n dX8_round_6 rfl ?_
  obtain ⟨y1, hh1, h⟩ := obd_some h
  refine h_cVi [.inl v1] (m_X8_isJudge  hh1) cw_X8_419 dX8_round_7 rfl ok_8 (by decide) rfl (Or.inr rfl) rfl ?_
  refine h_if_ne (tgt := 19) dX8_round_10 (by decide) (fun q1 => ?_) (fun q1 => ?_)
  · rw [if_neg q1] at h
    refine h_aload_n dX8_round_19 rfl ?_
    obtain ⟨y2, hh2, h⟩ := obd_some h
    refine h_cVi [] (m_X8_tellNow  hh2) cw_X8_410 dX8_round_20 rfl ok_8 (by decide) rfl (Or.inr rfl) rfl ?_
    refine h_istore_n dX8_round_23 (by decide) rfl ?_
    refine h_aload_n dX8_round_24 rfl ?_
    refine h_iload_n dX8_round_25 rfl ?_
    obtain ⟨I2', e2, h⟩ := bnd_some h
    refine p_X8_100  dX8_round_26 ?_
    refine h_nmI e2 ?_
    refine h_aload_n dX8_round_29 rfl ?_
    obtain ⟨y3, hh3, h⟩ := obd_some h
    refine h_cVi [] (m_X8_tell  hh3) cw_X8_407 dX8_round_30 rfl ok_8 (by decide) rfl (Or.inr rfl) rfl ?_
    refine h_iload_n dX8_round_33 rfl ?_
    refine h_isub dX8_round_34 ?_
    cases h
    exact h_iret dX8_round_35 rfl E
  · rw [if_pos q1] at h
    refine h_aload_n dX8_round_13 rfl ?_
    refine h_iconst (1 : Int32) dX8_round_14 k_iconst_1 ?_
    obtain ⟨y4, hh4, h⟩ := obd_some h
    refine h_cVi [.inl (1 : Int32)] (m_X8_fail  hh4) cw_X8_298 dX8_round_15 rfl ok_8 (by decide) rfl (Or.inr rfl) rfl ?_
    cases h
    exact h_iret dX8_round_18 rfl E
theorem m_X8_round {I : Mem} {P : PMem} {O : Nat → Int64} {D : Bool} {n : Nat} {v1 : Int32} {r : (Int32 × Mem)}  (h : f_X8_round I v1 = some r) : MethR yX8_round cX8_round 3 (some .int) 10 [.inr (.inr (8, 0, 0)), .inl v1] I P O D n (some (.inl r.1)) r.2 P O D n := meth_R (Nat.le_refl _) (by decide) rfl (Nat.le_of_ble_eq_true rfl) rfl (fun X Q E => b_X8_round X Q  h E)
def f_X8_free_142   (I : Mem) (v2 : Int32) (v3 : Int32) : Option (Int32 × Mem) :=
  bnd (upd4 I 8 0 0 30 ((I 8 0 0 30) - (1 : Int32))) fun I1' =>
  if v3 = (-1 : Int32) then (some ((-1 : Int32), I1')) else (if v2 = 0 then (gd ((I1' 50 0 0 0) != 0) <|
  some ((v3 / (I1' 50 0 0 0)), I1')) else (gd ((I1' 50 0 0 0) != 0) <|
  some ((jrem v3 (I1' 50 0 0 0)), I1')))
theorem b_X8_free_142 (X : CX) (Q : State → Prop) {I : Mem} {P : PMem} {O : Nat → Int64} {D : Bool} {n : Nat} {v2 : Int32} {v3 : Int32} {r : (Int32 × Mem)}  (h : f_X8_free_142 I v2 v3 = some r) (E : EndR X cX8_free RX8 5 (some .int) 10 n (some (.inl r.1)) r.2 P O D Q) : Here X cX8_free RX8 5 (some .int) 10 n 142 [some (.inr (.inr (8, 0, 0))), none, some (.inl v2), some (.inl v3), none] [] I P O D n Q := by
  unfold f_X8_free_142 at h
  refine h_aload_n dX8_free_142 rfl ?_
  refine h_dup dX8_free_143 (fun _ => rfl) ?_
  refine g_X8_314  dX8_free_144 ?_
  refine h_iconst (1 : Int32) dX8_free_147 k_iconst_1 ?_
  refine h_isub dX8_free_148 ?_
  obtain ⟨I1', e1, h⟩ := bnd_some h
  refine p_X8_314  dX8_free_149 ?_
  refine h_nmI e1 ?_
  refine h_iload_n dX8_free_152 rfl ?_
  refine h_iconst (-1 : Int32) dX8_free_153 k_iconst_m1 ?_
  refine h_icmp_ne (tgt := 161) dX8_free_154 (by decide) (fun q1 => ?_) (fun q1 => ?_)
  · rw [if_neg q1] at h
    refine h_iload_n dX8_free_161 rfl ?_
    refine h_if_ne (tgt := 176) dX8_free_162 (by decide) (fun q2 => ?_) (fun q2 => ?_)
    · rw [if_neg q2] at h
      refine h_iload_n dX8_free_176 rfl ?_
      refine h_aload_n dX8_free_177 rfl ?_
      refine g_X8_34  dX8_free_178 ?_
      refine h_iconst (0 : Int32) dX8_free_181 k_iconst_0 ?_
      refine al_50  0 cl_0 dX8_free_182 rfl ?_
      obtain ⟨g1, h⟩ := gd_some h
      refine h_rem dX8_free_183 g1 ?_
      cases h
      exact h_iret dX8_free_184 rfl E
    · rw [if_pos q2] at h
      refine h_iload_n dX8_free_165 rfl ?_
      refine h_aload_n dX8_free_166 rfl ?_
      refine g_X8_34  dX8_free_167 ?_
      refine h_iconst (0 : Int32) dX8_free_170 k_iconst_0 ?_
      refine al_50  0 cl_0 dX8_free_171 rfl ?_
      obtain ⟨g2, h⟩ := gd_some h
      refine h_div dX8_free_172 g2 ?_
      refine h_goto (tgt := 184) dX8_free_173 (by decide) ?_
      cases h
      exact h_iret dX8_free_184 rfl E
  · rw [if_pos q1] at h
    refine h_iconst (-1 : Int32) dX8_free_157 k_iconst_m1 ?_
    refine h_goto (tgt := 184) dX8_free_158 (by decide) ?_
    cases h
    exact h_iret dX8_free_184 rfl E
def f_X8_free_62   : Nat → Mem → Int32 → Int32 → Int32 → Int32 → Option (Int32 × Mem)
  | 0, _, _, _, _, _ => none
  | fu + 1, I, v1, v2, v3, v4 =>
    if ((I 50 0 0 0) * (61 : Int32)) ≤ v4 then (f_X8_free_142 I v2 v3) else (if v3 = (-1 : Int32) then (gd ((I 50 0 0 0) != 0) <|
    (f_X8_putRow 62 0 0 I ((I 8 0 0 30) - (1 : Int32)) v1 (jrem v4 (I 50 0 0 0)) (v4 / (I 50 0 0 0))).bind fun y1 =>
    (f_X8_judgeCase y1 v1).bind fun y2 =>
    gd (inb v1 6) <|
    if (y2 75 0 0 v1.toNatClampNeg) < (100000 : Int32) then ((f_X8_free_62 fu) y2 v1 v2 (-1 : Int32) (v4 + (1 : Int32))) else ((f_X8_free_62 fu) y2 v1 v2 v4 (v4 + (1 : Int32)))) else (f_X8_free_142 I v2 v3))
theorem b_X8_free_62 (X : CX) (Q : State → Prop) {P : PMem} {O : Nat → Int64} {D : Bool} {n : Nat} {r : (Int32 × Mem)}  : ∀ (fu : Nat) {I : Mem} {v1 : Int32} {v2 : Int32} {v3 : Int32} {v4 : Int32}, f_X8_free_62 fu I v1 v2 v3 v4 = some r → EndR X cX8_free RX8 5 (some .int) 10 n (some (.inl r.1)) r.2 P O D Q → Here X cX8_free RX8 5 (some .int) 10 n 62 [some (.inr (.inr (8, 0, 0))), some (.inl v1), some (.inl v2), some (.inl v3), some (.inl v4)] [] I P O D n Q := by
  intro fu
  induction fu with
  | zero => intro I v1 v2 v3 v4 h E; cases h
  | succ fu ih =>
  intro I v1 v2 v3 v4 h E
  have H62 : ∀ (I : Mem) (v1 : Int32) (v2 : Int32) (v3 : Int32) (v4 : Int32), f_X8_free_62 fu I v1 v2 v3 v4 = some r → Here X cX8_free RX8 5 (some .int) 10 n 62 [some (.inr (.inr (8, 0, 0))), some (.inl v1), some (.inl v2), some (.inl v3), some (.inl v4)] [] I P O D n Q := fun _ _ _ _ _ b => ih b E
  simp only [f_X8_free_62] at h
  refine h_iload dX8_free_62 rfl ?_
  refine h_aload_n dX8_free_64 rfl ?_
  refine g_X8_34  dX8_free_65 ?_
  refine h_iconst (0 : Int32) dX8_free_68 k_iconst_0 ?_
  refine al_50  0 cl_0 dX8_free_69 rfl ?_
  refine h_bipush (61 : Int32) dX8_free_70 k_bipush_61 ?_
  refine h_imul dX8_free_72 ?_
  refine h_icmp_ge (tgt := 142) dX8_free_73 (by decide) (fun q1 => ?_) (fun q1 => ?_)
  · rw [if_pos q1] at h
    exact h_mask [true, false, true, true, false] (b_X8_free_142 X Q  h E)
  · rw [if_neg q1] at h
    refine h_iload_n dX8_free_76 rfl ?_
    refine h_iconst (-1 : Int32) dX8_free_77 k_iconst_m1 ?_
    refine h_icmp_ne (tgt := 142) dX8_free_78 (by decide) (fun q2 => ?_) (fun q2 => ?_)
    · rw [if_neg q2] at h
      exact h_mask [true, false, true, true, false] (b_X8_free_142 X Q  h E)
    · rw [if_pos q2] at h
      refine h_aload_n dX8_free_81 rfl ?_
      refine g_X8_73  dX8_free_82 ?_
      refine h_aload_n dX8_free_85 rfl ?_
      refine g_X8_314  dX8_free_86 ?_
      refine h_iconst (1 : Int32) dX8_free_89 k_iconst_1 ?_
      refine h_isub dX8_free_90 ?_
      refine h_iload_n dX8_free_91 rfl ?_
      refine h_iload dX8_free_92 rfl ?_
      refine h_aload_n dX8_free_94 rfl ?_
      refine g_X8_34  dX8_free_95 ?_
      refine h_iconst (0 : Int32) dX8_free_98 k_iconst_0 ?_
      refine al_50  0 cl_0 dX8_free_99 rfl ?_
      obtain ⟨g1, h⟩ := gd_some h
      refine h_rem dX8_free_100 g1 ?_
      refine h_iload dX8_free_101 rfl ?_
      refine h_aload_n dX8_free_103 rfl ?_
      refine g_X8_34  dX8_free_104 ?_
      refine h_iconst (0 : Int32) dX8_free_107 k_iconst_0 ?_
      refine al_50  0 cl_0 dX8_free_108 rfl ?_
      refine h_div dX8_free_109 g1 ?_
      obtain ⟨y1, hh1, h⟩ := obd_some h
      refine h_cSv [.inr (.inr (62, 0, 0)), .inl ((I 8 0 0 30) - (1 : Int32)), .inl v1, .inl (jrem v4 (I 50 0 0 0)), .inl (v4 / (I 50 0 0 0))] (m_X8_putRow rfl hh1) cs_X8_443 dX8_free_110 rfl (by decide) rfl (Or.inr rfl) rfl ?_
      refine h_aload_n dX8_free_113 rfl ?_
      refine h_iload_n dX8_free_114 rfl ?_
      obtain ⟨y2, hh2, h⟩ := obd_some h
      refine h_cVv [.inl v1] (m_X8_judgeCase  hh2) cw_X8_401 dX8_free_115 rfl ok_8 (by decide) rfl (Or.inr rfl) rfl ?_
      refine h_aload_n dX8_free_118 rfl ?_
      refine g_X8_117  dX8_free_119 ?_
      refine h_iload_n dX8_free_122 rfl ?_
      obtain ⟨g2, h⟩ := gd_some h
      refine al_75  v1.toNatClampNeg rfl dX8_free_123 g2 ?_
      refine h_ldci (100000 : Int32) dX8_free_124 kc_X8_186 ?_
      refine h_icmp_lt (tgt := 134) dX8_free_126 (by decide) (fun q3 => ?_) (fun q3 => ?_)
      · rw [if_pos q3] at h
        refine h_iconst (-1 : Int32) dX8_free_134 k_iconst_m1 ?_
        refine h_istore_n dX8_free_135 (by decide) rfl ?_
        refine h_iinc (1 : Int32) dX8_free_136 rfl k_iinc_1 (by decide) rfl ?_
        refine h_goto (tgt := 62) dX8_free_139 (by decide) ?_
        exact (H62 _ _ _ _ _ h)
      · rw [if_neg q3] at h
        refine h_iload dX8_free_129 rfl ?_
        refine h_goto (tgt := 135) dX8_free_131 (by decide) ?_
        refine h_istore_n dX8_free_135 (by decide) rfl ?_
        refine h_iinc (1 : Int32) dX8_free_136 rfl k_iinc_1 (by decide) rfl ?_
        refine h_goto (tgt := 62) dX8_free_139 (by decide) ?_
        exact (H62 _ _ _ _ _ h)
def f_X8_free_22   (I : Mem) : Option (Int32 × Mem) :=
  (f_X8_fail I (1 : Int32)).bind fun y1 =>
  some (y1.1, y1.2)
theorem b_X8_free_22 (X : CX) (Q : State → Prop) {I : Mem} {P : PMem} {O : Nat → Int64} {D : Bool} {n : Nat} {r : (Int32 × Mem)}  (h : f_X8_free_22 I = some r) (E : EndR X cX8_free RX8 5 (some .int) 10 n (some (.inl r.1)) r.2 P O D Q) : Here X cX8_free RX8 5 (some .int) 10 n 22 [some (.inr (.inr (8, 0, 0))), none, none, none, none] [] I P O D n Q := by
  unfold f_X8_free_22 at h
  refine h_aload_n dX8_free_22 rfl ?_
  refine h_iconst (1 : Int32) dX8_free_23 k_iconst_1 ?_
  obtain ⟨y1, hh1, h⟩ := obd_some h
  refine h_cVi [.inl (1 : Int32)] (m_X8_fail  hh1) cw_X8_298 dX8_free_24 rfl ok_8 (by decide) rfl (Or.inr rfl) rfl ?_
  cases h
  exact h_iret dX8_free_27 rfl E
def f_X8_free   (I : Mem) (v1 : Int32) (v2 : Int32) : Option (Int32 × Mem) :=
  bnd (upd4 I 8 0 0 2 (0 : Int32)) fun I1' =>
  (f_X8_isCase I1' v1).bind fun y1 =>
  if y1 = 0 then (f_X8_free_22 I1') else (if v2 < 0 then (f_X8_free_22 I1') else (if v2 ≤ (1 : Int32) then ((f_X8_tellNow I1').bind fun y2 =>
  gd (inb v1 6) <|
  if (y2.2 75 0 0 v1.toNatClampNeg) < (100000 : Int32) then (bnd (upd4 y2.2 8 0 0 30 ((y2.2 8 0 0 30) + (1 : Int32))) fun I2' =>
  f_X8_free_62 FU I2' v1 v2 (-1 : Int32) (0 : Int32)) else (some ((-2 : Int32), y2.2))) else (f_X8_free_22 I1')))
theorem b_X8_free (X : CX) (Q : State → Prop) {I : Mem} {P : PMem} {O : Nat → Int64} {D : Bool} {n : Nat} {v1 : Int32} {v2 : Int32} {r : (Int32 × Mem)}  (h : f_X8_free I v1 v2 = some r) (E : EndR X cX8_free RX8 5 (some .int) 10 n (some (.inl r.1)) r.2 P O D Q) : Here X cX8_free RX8 5 (some .int) 10 n 0 [some (.inr (.inr (8, 0, 0))), some (.inl v1), some (.inl v2), none, none] [] I P O D n Q := by
  unfold f_X8_free at h
  refine h_aload_n dX8_free_0 rfl ?_
  refine h_iconst (0 : Int32) dX8_free_1 k_iconst_0 ?_
  obtain ⟨I1', e1, h⟩ := bnd_some h
  refine p_X8_150  dX8_free_2 ?_
  refine h_nmI e1 ?_
  refine h_aload_n dX8_free_5 rfl ?_
  refine h_iload_n dX8_free_6 rfl ?_
  obtain ⟨y1, hh1, h⟩ := obd_some h
  refine h_cVi [.inl v1] (m_X8_isCase  hh1) cw_X8_424 dX8_free_7 rfl ok_8 (by decide) rfl (Or.inr rfl) rfl ?_
  refine h_if_eq (tgt := 22) dX8_free_10 (by decide) (fun q1 => ?_) (fun q1 => ?_)
  · rw [if_pos q1] at h
    exact h_mask [true, false, false, false, false] (b_X8_free_22 X Q  h E)
  · rw [if_neg q1] at h
    refine h_iload_n dX8_free_13 rfl ?_
    refine h_if_lt (tgt := 22) dX8_free_14 (by decide) (fun q2 => ?_) (fun q2 => ?_)
    · rw [if_pos q2] at h
      exact h_mask [true, false, false, false, false] (b_X8_free_22 X Q  h E)
    · rw [if_neg q2] at h
      refine h_iload_n dX8_free_17 rfl ?_
      refine h_iconst (1 : Int32) dX8_free_18 k_iconst_1 ?_
      refine h_icmp_le (tgt := 28) dX8_free_19 (by decide) (fun q3 => ?_) (fun q3 => ?_)
      · rw [if_pos q3] at h
        refine h_aload_n dX8_free_28 rfl ?_
        obtain ⟨y2, hh2, h⟩ := obd_some h
        refine h_cVi [] (m_X8_tellNow  hh2) cw_X8_410 dX8_free_29 rfl ok_8 (by decide) rfl (Or.inr rfl) rfl ?_
        refine h_pop dX8_free_32 (fun _ => rfl) ?_
        refine h_aload_n dX8_free_33 rfl ?_
        refine g_X8_117  dX8_free_34 ?_
        refine h_iload_n dX8_free_37 rfl ?_
        obtain ⟨g1, h⟩ := gd_some h
        refine al_75  v1.toNatClampNeg rfl dX8_free_38 g1 ?_
        refine h_ldci (100000 : Int32) dX8_free_39 kc_X8_186 ?_
        refine h_icmp_lt (tgt := 47) dX8_free_41 (by decide) (fun q4 => ?_) (fun q4 => ?_)
        · rw [if_pos q4] at h
          refine h_aload_n dX8_free_47 rfl ?_
          refine h_dup dX8_free_48 (fun _ => rfl) ?_
          refine g_X8_314  dX8_free_49 ?_
          refine h_iconst (1 : Int32) dX8_free_52 k_iconst_1 ?_
          refine h_iadd dX8_free_53 ?_
          obtain ⟨I2', e2, h⟩ := bnd_some h
          refine p_X8_314  dX8_free_54 ?_
          refine h_nmI e2 ?_
          refine h_iconst (-1 : Int32) dX8_free_57 k_iconst_m1 ?_
          refine h_istore_n dX8_free_58 (by decide) rfl ?_
          refine h_iconst (0 : Int32) dX8_free_59 k_iconst_0 ?_
          refine h_istore dX8_free_60 (by decide) rfl ?_
          exact (b_X8_free_62 X Q FU  h E)
        · rw [if_neg q4] at h
          refine h_bipush (-2 : Int32) dX8_free_44 k_bipush_m2 ?_
          cases h
          exact h_iret dX8_free_46 rfl E
      · rw [if_neg q3] at h
        exact h_mask [true, false, false, false, false] (b_X8_free_22 X Q  h E)
theorem m_X8_free {I : Mem} {P : PMem} {O : Nat → Int64} {D : Bool} {n : Nat} {v1 : Int32} {v2 : Int32} {r : (Int32 × Mem)}  (h : f_X8_free I v1 v2 = some r) : MethR yX8_free cX8_free 5 (some .int) 10 [.inr (.inr (8, 0, 0)), .inl v1, .inl v2] I P O D n (some (.inl r.1)) r.2 P O D n := meth_R (Nat.le_refl _) (by decide) rfl (Nat.le_of_ble_eq_true rfl) rfl (fun X Q E => b_X8_free X Q  h E)
def f_X8_mercy_73 (k33 : Mem → Int32 → Int32 → Int32 → Option (Int32 × Mem))  (I : Mem) (v1 : Int32) (v2 : Int32) (v3 : Int32) : Option (Int32 × Mem) :=
  bnd (upd4 I 8 0 0 42 v3) fun I1' =>
  (f_X8_judgeCase I1' v1).bind fun y1 =>
  gd (inb v1 6) <|
  if (y1 75 0 0 v1.toNatClampNeg) < (100000 : Int32) then (k33 y1 v1 v2 (v3 + (1 : Int32))) else (k33 y1 v1 v3 (v3 + (1 : Int32)))
theorem b_X8_mercy_73 (X : CX) (Q : State → Prop) {I : Mem} {P : PMem} {O : Nat → Int64} {D : Bool} {n : Nat} {k33 : Mem → Int32 → Int32 → Int32 → Option (Int32 × Mem)} {v1 : Int32} {v2 : Int32} {v3 : Int32} {r : (Int32 × Mem)}  (H33 : ∀ (I : Mem) (v1 : Int32) (v2 : Int32) (v3 : Int32), k33 I v1 v2 v3 = some r → Here X cX8_mercy RX8 4 (some .int) 10 n 33 [some (.inr (.inr (8, 0, 0))), some (.inl v1), some (.inl v2), some (.inl v3)] [] I P O D n Q) (h : f_X8_mercy_73 k33 I v1 v2 v3 = some r) (E : EndR X cX8_mercy RX8 4 (some .int) 10 n (some (.inl r.1)) r.2 P O D Q) : Here X cX8_mercy RX8 4 (some .int) 10 n 73 [some (.inr (.inr (8, 0, 0))), some (.inl v1), some (.inl v2), some (.inl v3)] [] I P O D n Q := by
  unfold f_X8_mercy_73 at h
  refine h_aload_n dX8_mercy_73 rfl ?_
  refine h_iload_n dX8_mercy_74 rfl ?_
  obtain ⟨I1', e1, h⟩ := bnd_some h
  refine p_X8_340  dX8_mercy_75 ?_
  refine h_nmI e1 ?_
  refine h_aload_n dX8_mercy_78 rfl ?_
  refine h_iload_n dX8_mercy_79 rfl ?_
  obtain ⟨y1, hh1, h⟩ := obd_some h
  refine h_cVv [.inl v1] (m_X8_judgeCase  hh1) cw_X8_401 dX8_mercy_80 rfl ok_8 (by decide) rfl (Or.inr rfl) rfl ?_
  refine h_aload_n dX8_mercy_83 rfl ?_
  refine g_X8_117  dX8_mercy_84 ?_
  refine h_iload_n dX8_mercy_87 rfl ?_
  obtain ⟨g1, h⟩ := gd_some h
  refine al_75  v1.toNatClampNeg rfl dX8_mercy_88 g1 ?_
  refine h_ldci (100000 : Int32) dX8_mercy_89 kc_X8_186 ?_
  refine h_icmp_lt (tgt := 98) dX8_mercy_91 (by decide) (fun q1 => ?_) (fun q1 => ?_)
  · rw [if_pos q1] at h
    refine h_iload_n dX8_mercy_98 rfl ?_
    refine h_istore_n dX8_mercy_99 (by decide) rfl ?_
    refine h_iinc (1 : Int32) dX8_mercy_100 rfl k_iinc_1 (by decide) rfl ?_
    refine h_goto (tgt := 33) dX8_mercy_103 (by decide) ?_
    exact (H33 _ _ _ _ h)
  · rw [if_neg q1] at h
    refine h_iload_n dX8_mercy_94 rfl ?_
    refine h_goto (tgt := 99) dX8_mercy_95 (by decide) ?_
    refine h_istore_n dX8_mercy_99 (by decide) rfl ?_
    refine h_iinc (1 : Int32) dX8_mercy_100 rfl k_iinc_1 (by decide) rfl ?_
    refine h_goto (tgt := 33) dX8_mercy_103 (by decide) ?_
    exact (H33 _ _ _ _ h)
def f_X8_mercy_33   : Nat → Mem → Int32 → Int32 → Int32 → Option (Int32 × Mem)
  | 0, _, _, _, _ => none
  | fu + 1, I, v1, v2, v3 =>
    if (jshl (1 : Int32) (I 50 0 0 4)) ≤ v3 then (some (v2, I)) else (if (v3 &&& (I 8 0 0 41)) = 0 then (if v2 = (-1 : Int32) then (f_X8_mercy_73 (f_X8_mercy_33 fu) I v1 v2 v3) else ((f_X8_bitsOf I v3).bind fun y1 =>
    (f_X8_bitsOf I v2).bind fun y2 =>
    if y1 < y2 then (f_X8_mercy_73 (f_X8_mercy_33 fu) I v1 v2 v3) else ((f_X8_mercy_33 fu) I v1 v2 (v3 + (1 : Int32))))) else ((f_X8_mercy_33 fu) I v1 v2 (v3 + (1 : Int32))))
theorem b_X8_mercy_33 (X : CX) (Q : State → Prop) {P : PMem} {O : Nat → Int64} {D : Bool} {n : Nat} {r : (Int32 × Mem)}  : ∀ (fu : Nat) {I : Mem} {v1 : Int32} {v2 : Int32} {v3 : Int32}, f_X8_mercy_33 fu I v1 v2 v3 = some r → EndR X cX8_mercy RX8 4 (some .int) 10 n (some (.inl r.1)) r.2 P O D Q → Here X cX8_mercy RX8 4 (some .int) 10 n 33 [some (.inr (.inr (8, 0, 0))), some (.inl v1), some (.inl v2), some (.inl v3)] [] I P O D n Q := by
  intro fu
  induction fu with
  | zero => intro I v1 v2 v3 h E; cases h
  | succ fu ih =>
  intro I v1 v2 v3 h E
  have H33 : ∀ (I : Mem) (v1 : Int32) (v2 : Int32) (v3 : Int32), f_X8_mercy_33 fu I v1 v2 v3 = some r → Here X cX8_mercy RX8 4 (some .int) 10 n 33 [some (.inr (.inr (8, 0, 0))), some (.inl v1), some (.inl v2), some (.inl v3)] [] I P O D n Q := fun _ _ _ _ b => ih b E
  simp only [f_X8_mercy_33] at h
  refine h_iload_n dX8_mercy_33 rfl ?_
  refine h_iconst (1 : Int32) dX8_mercy_34 k_iconst_1 ?_
  refine h_aload_n dX8_mercy_35 rfl ?_
  refine g_X8_34  dX8_mercy_36 ?_
  refine h_iconst (4 : Int32) dX8_mercy_39 k_iconst_4 ?_
  refine al_50  4 cl_4 dX8_mercy_40 rfl ?_
  refine h_shl dX8_mercy_41 ?_
  refine h_icmp_ge (tgt := 106) dX8_mercy_42 (by decide) (fun q1 => ?_) (fun q1 => ?_)
  · rw [if_pos q1] at h
    refine h_iload_n dX8_mercy_106 rfl ?_
    cases h
    exact h_iret dX8_mercy_107 rfl E
  · rw [if_neg q1] at h
    refine h_iload_n dX8_mercy_45 rfl ?_
    refine h_aload_n dX8_mercy_46 rfl ?_
    refine g_X8_343  dX8_mercy_47 ?_
    refine h_iand dX8_mercy_50 ?_
    refine h_if_ne (tgt := 100) dX8_mercy_51 (by decide) (fun q2 => ?_) (fun q2 => ?_)
    · rw [if_neg q2] at h
      refine h_iinc (1 : Int32) dX8_mercy_100 rfl k_iinc_1 (by decide) rfl ?_
      refine h_goto (tgt := 33) dX8_mercy_103 (by decide) ?_
      exact (H33 _ _ _ _ h)
    · rw [if_pos q2] at h
      refine h_iload_n dX8_mercy_54 rfl ?_
      refine h_iconst (-1 : Int32) dX8_mercy_55 k_iconst_m1 ?_
      refine h_icmp_eq (tgt := 73) dX8_mercy_56 (by decide) (fun q3 => ?_) (fun q3 => ?_)
      · rw [if_pos q3] at h
        exact (b_X8_mercy_73 X Q H33  h E)
      · rw [if_neg q3] at h
        refine h_iload_n dX8_mercy_59 rfl ?_
        obtain ⟨y1, hh1, h⟩ := obd_some h
        refine h_cSi [.inl v3] (m_X8_bitsOf  hh1) cs_X8_452 dX8_mercy_60 rfl (by decide) rfl (Or.inr rfl) rfl ?_
        refine h_iload_n dX8_mercy_63 rfl ?_
        obtain ⟨y2, hh2, h⟩ := obd_some h
        refine h_cSi [.inl v2] (m_X8_bitsOf  hh2) cs_X8_452 dX8_mercy_64 rfl (by decide) rfl (Or.inr rfl) rfl ?_
        refine h_icmp_lt (tgt := 73) dX8_mercy_67 (by decide) (fun q4 => ?_) (fun q4 => ?_)
        · rw [if_pos q4] at h
          exact (b_X8_mercy_73 X Q H33  h E)
        · rw [if_neg q4] at h
          refine h_goto (tgt := 100) dX8_mercy_70 (by decide) ?_
          refine h_iinc (1 : Int32) dX8_mercy_100 rfl k_iinc_1 (by decide) rfl ?_
          refine h_goto (tgt := 33) dX8_mercy_103 (by decide) ?_
          exact (H33 _ _ _ _ h)
def f_X8_mercy   (I : Mem) (v1 : Int32) : Option (Int32 × Mem) :=
  bnd (upd4 I 8 0 0 2 (0 : Int32)) fun I1' =>
  (f_X8_isCase I1' v1).bind fun y1 =>
  if y1 = 0 then ((f_X8_fail I1' (1 : Int32)).bind fun y3 =>
  some (y3.1, y3.2)) else ((f_X8_tellNow I1').bind fun y2 =>
  bnd (upd4 y2.2 8 0 0 43 v1) fun I2' =>
  f_X8_mercy_33 FU I2' v1 (-1 : Int32) (0 : Int32))
theorem b_X8_mercy (X : CX) (Q : State → Prop) {I : Mem} {P : PMem} {O : Nat → Int64} {D : Bool} {n : Nat} {v1 : Int32} {r : (Int32 × Mem)}  (h : f_X8_mercy I v1 = some r) (E : EndR X cX8_mercy RX8 4 (some .int) 10 n (some (.inl r.1)) r.2 P O D Q) : Here X cX8_mercy RX8 4 (some .int) 10 n 0 [some (.inr (.inr (8, 0, 0))), some (.inl v1), none, none] [] I P O D n Q := by
  unfold f_X8_mercy at h
  refine h_aload_n dX8_mercy_0 rfl ?_
  refine h_iconst (0 : Int32) dX8_mercy_1 k_iconst_0 ?_
  obtain ⟨I1', e1, h⟩ := bnd_some h
  refine p_X8_150  dX8_mercy_2 ?_
  refine h_nmI e1 ?_
  refine h_aload_n dX8_mercy_5 rfl ?_
  refine h_iload_n dX8_mercy_6 rfl ?_
  obtain ⟨y1, hh1, h⟩ := obd_some h
  refine h_cVi [.inl v1] (m_X8_isCase  hh1) cw_X8_424 dX8_mercy_7 rfl ok_8 (by decide) rfl (Or.inr rfl) rfl ?_
  refine h_if_ne (tgt := 19) dX8_mercy_10 (by decide) (fun q1 => ?_) (fun q1 => ?_)
  · rw [if_neg q1] at h
    refine h_aload_n dX8_mercy_19 rfl ?_
    obtain ⟨y2, hh2, h⟩ := obd_some h
    refine h_cVi [] (m_X8_tellNow  hh2) cw_X8_410 dX8_mercy_20 rfl ok_8 (by decide) rfl (Or.inr rfl) rfl ?_
    refine h_pop dX8_mercy_23 (fun _ => rfl) ?_
    refine h_aload_n dX8_mercy_24 rfl ?_
    refine h_iload_n dX8_mercy_25 rfl ?_
    obtain ⟨I2', e2, h⟩ := bnd_some h
    refine p_X8_103  dX8_mercy_26 ?_
    refine h_nmI e2 ?_
    refine h_iconst (-1 : Int32) dX8_mercy_29 k_iconst_m1 ?_
    refine h_istore_n dX8_mercy_30 (by decide) rfl ?_
    refine h_iconst (0 : Int32) dX8_mercy_31 k_iconst_0 ?_
    refine h_istore_n dX8_mercy_32 (by decide) rfl ?_
    exact (b_X8_mercy_33 X Q FU  h E)
  · rw [if_pos q1] at h
    refine h_aload_n dX8_mercy_13 rfl ?_
    refine h_iconst (1 : Int32) dX8_mercy_14 k_iconst_1 ?_
    obtain ⟨y3, hh3, h⟩ := obd_some h
    refine h_cVi [.inl (1 : Int32)] (m_X8_fail  hh3) cw_X8_298 dX8_mercy_15 rfl ok_8 (by decide) rfl (Or.inr rfl) rfl ?_
    cases h
    exact h_iret dX8_mercy_18 rfl E
theorem m_X8_mercy {I : Mem} {P : PMem} {O : Nat → Int64} {D : Bool} {n : Nat} {v1 : Int32} {r : (Int32 × Mem)}  (h : f_X8_mercy I v1 = some r) : MethR yX8_mercy cX8_mercy 4 (some .int) 10 [.inr (.inr (8, 0, 0)), .inl v1] I P O D n (some (.inl r.1)) r.2 P O D n := meth_R (Nat.le_refl _) (by decide) rfl (Nat.le_of_ble_eq_true rfl) rfl (fun X Q E => b_X8_mercy X Q  h E)
def f_X8_deaf   (I : Mem) (v1 : Int32) : Option (Int32 × Mem) :=
  bnd (upd4 I 8 0 0 2 (0 : Int32)) fun I1' =>
  (f_X8_isJudge I1' v1).bind fun y1 =>
  if y1 = 0 then ((f_X8_fail I1' (1 : Int32)).bind fun y4 =>
  some (y4.1, y4.2)) else ((f_X8_tellNow I1').bind fun y2 =>
  bnd (upd4 y2.2 8 0 0 41 ((y2.2 8 0 0 41) ^^^ (jshl (1 : Int32) v1))) fun I2' =>
  (f_X8_judgeAll I2').bind fun y3 =>
  some (y3.1, y3.2))
theorem b_X8_deaf (X : CX) (Q : State → Prop) {I : Mem} {P : PMem} {O : Nat → Int64} {D : Bool} {n : Nat} {v1 : Int32} {r : (Int32 × Mem)}  (h : f_X8_deaf I v1 = some r) (E : EndR X cX8_deaf RX8 2 (some .int) 10 n (some (.inl r.1)) r.2 P O D Q) : Here X cX8_deaf RX8 2 (some .int) 10 n 0 [some (.inr (.inr (8, 0, 0))), some (.inl v1)] [] I P O D n Q := by
  unfold f_X8_deaf at h
  refine h_aload_n dX8_deaf_0 rfl ?_
  refine h_iconst (0 : Int32) dX8_deaf_1 k_iconst_0 ?_
  obtain ⟨I1', e1, h⟩ := bnd_some h
  refine p_X8_150  dX8_deaf_2 ?_
  refine h_nmI e1 ?_
  refine h_aload_n dX8_deaf_5 rfl ?_
  refine h_iload_n dX8_deaf_6 rfl ?_
  obtain ⟨y1, hh1, h⟩ := obd_some h
  refine h_cVi [.inl v1] (m_X8_isJudge  hh1) cw_X8_419 dX8_deaf_7 rfl ok_8 (by decide) rfl (Or.inr rfl) rfl ?_
  refine h_if_ne (tgt := 19) dX8_deaf_10 (by decide) (fun q1 => ?_) (fun q1 => ?_)
  · rw [if_neg q1] at h
    refine h_aload_n dX8_deaf_19 rfl ?_
    obtain ⟨y2, hh2, h⟩ := obd_some h
    refine h_cVi [] (m_X8_tellNow  hh2) cw_X8_410 dX8_deaf_20 rfl ok_8 (by decide) rfl (Or.inr rfl) rfl ?_
    refine h_pop dX8_deaf_23 (fun _ => rfl) ?_
    refine h_aload_n dX8_deaf_24 rfl ?_
    refine h_dup dX8_deaf_25 (fun _ => rfl) ?_
    refine g_X8_343  dX8_deaf_26 ?_
    refine h_iconst (1 : Int32) dX8_deaf_29 k_iconst_1 ?_
    refine h_iload_n dX8_deaf_30 rfl ?_
    refine h_shl dX8_deaf_31 ?_
    refine h_ixor dX8_deaf_32 ?_
    obtain ⟨I2', e2, h⟩ := bnd_some h
    refine p_X8_343  dX8_deaf_33 ?_
    refine h_nmI e2 ?_
    refine h_aload_n dX8_deaf_36 rfl ?_
    obtain ⟨y3, hh3, h⟩ := obd_some h
    refine h_cVi [] (m_X8_judgeAll  hh3) cw_X8_398 dX8_deaf_37 rfl ok_8 (by decide) rfl (Or.inr rfl) rfl ?_
    cases h
    exact h_iret dX8_deaf_40 rfl E
  · rw [if_pos q1] at h
    refine h_aload_n dX8_deaf_13 rfl ?_
    refine h_iconst (1 : Int32) dX8_deaf_14 k_iconst_1 ?_
    obtain ⟨y4, hh4, h⟩ := obd_some h
    refine h_cVi [.inl (1 : Int32)] (m_X8_fail  hh4) cw_X8_298 dX8_deaf_15 rfl ok_8 (by decide) rfl (Or.inr rfl) rfl ?_
    cases h
    exact h_iret dX8_deaf_18 rfl E
theorem m_X8_deaf {I : Mem} {P : PMem} {O : Nat → Int64} {D : Bool} {n : Nat} {v1 : Int32} {r : (Int32 × Mem)}  (h : f_X8_deaf I v1 = some r) : MethR yX8_deaf cX8_deaf 2 (some .int) 10 [.inr (.inr (8, 0, 0)), .inl v1] I P O D n (some (.inl r.1)) r.2 P O D n := meth_R (Nat.le_refl _) (by decide) rfl (Nat.le_of_ble_eq_true rfl) rfl (fun X Q E => b_X8_deaf X Q  h E)
def f_X8_soonest_33   : Nat → Mem → Int32 → Int32 → Int32 → Int32 → Option (Int32 × Mem)
  | 0, _, _, _, _, _ => none
  | fu + 1, I, v1, v2, v3, v4 =>
    if (I 50 0 0 5) ≤ v4 then (if v1 = 0 then ((f_X8_orNone I v2).bind fun y1 =>
    some (y1, I)) else (some (v3, I))) else (gd (inb v4 6) <|
    bnd (jmin v2 (I 75 0 0 v4.toNatClampNeg)) fun x1 =>
    (f_X8_orNone I (I 75 0 0 v4.toNatClampNeg)).bind fun y2 =>
    bnd (jmax v3 y2) fun x2 =>
    (f_X8_soonest_33 fu) I v1 x1 x2 (v4 + (1 : Int32)))
theorem b_X8_soonest_33 (X : CX) (Q : State → Prop) {P : PMem} {O : Nat → Int64} {D : Bool} {n : Nat} {r : (Int32 × Mem)}  : ∀ (fu : Nat) {I : Mem} {v1 : Int32} {v2 : Int32} {v3 : Int32} {v4 : Int32}, f_X8_soonest_33 fu I v1 v2 v3 v4 = some r → EndR X cX8_soonest RX8 5 (some .int) 10 n (some (.inl r.1)) r.2 P O D Q → Here X cX8_soonest RX8 5 (some .int) 10 n 33 [some (.inr (.inr (8, 0, 0))), some (.inl v1), some (.inl v2), some (.inl v3), some (.inl v4)] [] I P O D n Q := by
  intro fu
  induction fu with
  | zero => intro I v1 v2 v3 v4 h E; cases h
  | succ fu ih =>
  intro I v1 v2 v3 v4 h E
  have H33 : ∀ (I : Mem) (v1 : Int32) (v2 : Int32) (v3 : Int32) (v4 : Int32), f_X8_soonest_33 fu I v1 v2 v3 v4 = some r → Here X cX8_soonest RX8 5 (some .int) 10 n 33 [some (.inr (.inr (8, 0, 0))), some (.inl v1), some (.inl v2), some (.inl v3), some (.inl v4)] [] I P O D n Q := fun _ _ _ _ _ b => ih b E
  simp only [f_X8_soonest_33] at h
  refine h_iload dX8_soonest_33 rfl ?_
  refine h_aload_n dX8_soonest_35 rfl ?_
  refine g_X8_34  dX8_soonest_36 ?_
  refine h_iconst (5 : Int32) dX8_soonest_39 k_iconst_5 ?_
  refine al_50  5 cl_5 dX8_soonest_40 rfl ?_
  refine h_icmp_ge (tgt := 77) dX8_soonest_41 (by decide) (fun q1 => ?_) (fun q1 => ?_)
  · rw [if_pos q1] at h
    refine h_iload_n dX8_soonest_77 rfl ?_
    refine h_if_ne (tgt := 88) dX8_soonest_78 (by decide) (fun q2 => ?_) (fun q2 => ?_)
    · rw [if_neg q2] at h
      refine h_iload_n dX8_soonest_88 rfl ?_
      cases h
      exact h_iret dX8_soonest_89 rfl E
    · rw [if_pos q2] at h
      refine h_iload_n dX8_soonest_81 rfl ?_
      obtain ⟨y1, hh1, h⟩ := obd_some h
      refine h_cSi [.inl v2] (m_X8_orNone  hh1) cs_X8_416 dX8_soonest_82 rfl (by decide) rfl (Or.inr rfl) rfl ?_
      refine h_goto (tgt := 89) dX8_soonest_85 (by decide) ?_
      cases h
      exact h_iret dX8_soonest_89 rfl E
  · rw [if_neg q1] at h
    refine h_iload_n dX8_soonest_44 rfl ?_
    refine h_aload_n dX8_soonest_45 rfl ?_
    refine g_X8_117  dX8_soonest_46 ?_
    refine h_iload dX8_soonest_49 rfl ?_
    obtain ⟨g1, h⟩ := gd_some h
    refine al_75  v4.toNatClampNeg rfl dX8_soonest_51 g1 ?_
    refine h_min dX8_soonest_52 ml_X8_187 wm1_min wm2 wm3_min (by decide) rfl ?_
    obtain ⟨x1, e1, h⟩ := bnd_some h
    refine h_nmv e1 ?_
    refine h_istore_n dX8_soonest_55 (by decide) rfl ?_
    refine h_iload_n dX8_soonest_56 rfl ?_
    refine h_aload_n dX8_soonest_57 rfl ?_
    refine g_X8_117  dX8_soonest_58 ?_
    refine h_iload dX8_soonest_61 rfl ?_
    refine al_75  v4.toNatClampNeg rfl dX8_soonest_63 g1 ?_
    obtain ⟨y2, hh2, h⟩ := obd_some h
    refine h_cSi [.inl (I 75 0 0 v4.toNatClampNeg)] (m_X8_orNone  hh2) cs_X8_416 dX8_soonest_64 rfl (by decide) rfl (Or.inr rfl) rfl ?_
    refine h_max dX8_soonest_67 ml_X8_378 wm1_max wm2 wm3_max (by decide) rfl ?_
    obtain ⟨x2, e2, h⟩ := bnd_some h
    refine h_nmv e2 ?_
    refine h_istore_n dX8_soonest_70 (by decide) rfl ?_
    refine h_iinc (1 : Int32) dX8_soonest_71 rfl k_iinc_1 (by decide) rfl ?_
    refine h_goto (tgt := 33) dX8_soonest_74 (by decide) ?_
    exact (H33 _ _ _ _ _ h)
def f_X8_soonest_14   (I : Mem) : Option (Int32 × Mem) :=
  (f_X8_fail I (1 : Int32)).bind fun y1 =>
  some (y1.1, y1.2)
theorem b_X8_soonest_14 (X : CX) (Q : State → Prop) {I : Mem} {P : PMem} {O : Nat → Int64} {D : Bool} {n : Nat} {r : (Int32 × Mem)}  (h : f_X8_soonest_14 I = some r) (E : EndR X cX8_soonest RX8 5 (some .int) 10 n (some (.inl r.1)) r.2 P O D Q) : Here X cX8_soonest RX8 5 (some .int) 10 n 14 [some (.inr (.inr (8, 0, 0))), none, none, none, none] [] I P O D n Q := by
  unfold f_X8_soonest_14 at h
  refine h_aload_n dX8_soonest_14 rfl ?_
  refine h_iconst (1 : Int32) dX8_soonest_15 k_iconst_1 ?_
  obtain ⟨y1, hh1, h⟩ := obd_some h
  refine h_cVi [.inl (1 : Int32)] (m_X8_fail  hh1) cw_X8_298 dX8_soonest_16 rfl ok_8 (by decide) rfl (Or.inr rfl) rfl ?_
  cases h
  exact h_iret dX8_soonest_19 rfl E
def f_X8_soonest   (I : Mem) (v1 : Int32) : Option (Int32 × Mem) :=
  bnd (upd4 I 8 0 0 2 (0 : Int32)) fun I1' =>
  if v1 < 0 then (f_X8_soonest_14 I1') else (if v1 ≤ (1 : Int32) then ((f_X8_tellNow I1').bind fun y1 =>
  f_X8_soonest_33 FU y1.2 v1 (100000 : Int32) (-1 : Int32) (0 : Int32)) else (f_X8_soonest_14 I1'))
theorem b_X8_soonest (X : CX) (Q : State → Prop) {I : Mem} {P : PMem} {O : Nat → Int64} {D : Bool} {n : Nat} {v1 : Int32} {r : (Int32 × Mem)}  (h : f_X8_soonest I v1 = some r) (E : EndR X cX8_soonest RX8 5 (some .int) 10 n (some (.inl r.1)) r.2 P O D Q) : Here X cX8_soonest RX8 5 (some .int) 10 n 0 [some (.inr (.inr (8, 0, 0))), some (.inl v1), none, none, none] [] I P O D n Q := by
  unfold f_X8_soonest at h
  refine h_aload_n dX8_soonest_0 rfl ?_
  refine h_iconst (0 : Int32) dX8_soonest_1 k_iconst_0 ?_
  obtain ⟨I1', e1, h⟩ := bnd_some h
  refine p_X8_150  dX8_soonest_2 ?_
  refine h_nmI e1 ?_
  refine h_iload_n dX8_soonest_5 rfl ?_
  refine h_if_lt (tgt := 14) dX8_soonest_6 (by decide) (fun q1 => ?_) (fun q1 => ?_)
  · rw [if_pos q1] at h
    exact h_mask [true, false, false, false, false] (b_X8_soonest_14 X Q  h E)
  · rw [if_neg q1] at h
    refine h_iload_n dX8_soonest_9 rfl ?_
    refine h_iconst (1 : Int32) dX8_soonest_10 k_iconst_1 ?_
    refine h_icmp_le (tgt := 20) dX8_soonest_11 (by decide) (fun q2 => ?_) (fun q2 => ?_)
    · rw [if_pos q2] at h
      refine h_aload_n dX8_soonest_20 rfl ?_
      obtain ⟨y1, hh1, h⟩ := obd_some h
      refine h_cVi [] (m_X8_tellNow  hh1) cw_X8_410 dX8_soonest_21 rfl ok_8 (by decide) rfl (Or.inr rfl) rfl ?_
      refine h_pop dX8_soonest_24 (fun _ => rfl) ?_
      refine h_ldci (100000 : Int32) dX8_soonest_25 kc_X8_186 ?_
      refine h_istore_n dX8_soonest_27 (by decide) rfl ?_
      refine h_iconst (-1 : Int32) dX8_soonest_28 k_iconst_m1 ?_
      refine h_istore_n dX8_soonest_29 (by decide) rfl ?_
      refine h_iconst (0 : Int32) dX8_soonest_30 k_iconst_0 ?_
      refine h_istore dX8_soonest_31 (by decide) rfl ?_
      exact (b_X8_soonest_33 X Q FU  h E)
    · rw [if_neg q2] at h
      exact h_mask [true, false, false, false, false] (b_X8_soonest_14 X Q  h E)
theorem m_X8_soonest {I : Mem} {P : PMem} {O : Nat → Int64} {D : Bool} {n : Nat} {v1 : Int32} {r : (Int32 × Mem)}  (h : f_X8_soonest I v1 = some r) : MethR yX8_soonest cX8_soonest 5 (some .int) 10 [.inr (.inr (8, 0, 0)), .inl v1] I P O D n (some (.inl r.1)) r.2 P O D n := meth_R (Nat.le_refl _) (by decide) rfl (Nat.le_of_ble_eq_true rfl) rfl (fun X Q E => b_X8_soonest X Q  h E)
def f_X8_see_79   (I : Mem) (s0 : Int32) (s1 : Int32) : Option (Int32 × Mem) :=
  gd (inb s1 8) <|
  bnd (upd4 I 79 0 0 s1.toNatClampNeg s0) fun I1' =>
  bnd (upd4 I1' 8 0 0 34 ((I1' 8 0 0 34) + (1 : Int32))) fun I2' =>
  some ((I2' 8 0 0 34), I2')
theorem b_X8_see_79 (X : CX) (Q : State → Prop) {I : Mem} {P : PMem} {O : Nat → Int64} {D : Bool} {n : Nat} {s0 : Int32} {s1 : Int32} {r : (Int32 × Mem)}  (h : f_X8_see_79 I s0 s1 = some r) (E : EndR X cX8_see RX8 4 (some .int) 4 n (some (.inl r.1)) r.2 P O D Q) : Here X cX8_see RX8 4 (some .int) 4 n 79 [some (.inr (.inr (8, 0, 0))), none, none, none] [.inl s0, .inl s1, .inr (.inr (79, 0, 0))] I P O D n Q := by
  unfold f_X8_see_79 at h
  obtain ⟨g1, h⟩ := gd_some h
  obtain ⟨I1', e1, h⟩ := bnd_some h
  refine as_79  s1.toNatClampNeg rfl dX8_see_79 g1 ?_
  refine h_nmI e1 ?_
  refine h_aload_n dX8_see_80 rfl ?_
  refine h_dup dX8_see_81 (fun _ => rfl) ?_
  refine g_X8_326  dX8_see_82 ?_
  refine h_iconst (1 : Int32) dX8_see_85 k_iconst_1 ?_
  refine h_iadd dX8_see_86 ?_
  obtain ⟨I2', e2, h⟩ := bnd_some h
  refine p_X8_326  dX8_see_87 ?_
  refine h_nmI e2 ?_
  refine h_aload_n dX8_see_90 rfl ?_
  refine g_X8_326  dX8_see_91 ?_
  cases h
  exact h_iret dX8_see_94 rfl E
def f_X8_see_21   (I : Mem) : Option (Int32 × Mem) :=
  (f_X8_fail I (1 : Int32)).bind fun y1 =>
  some (y1.1, y1.2)
theorem b_X8_see_21 (X : CX) (Q : State → Prop) {I : Mem} {P : PMem} {O : Nat → Int64} {D : Bool} {n : Nat} {r : (Int32 × Mem)}  (h : f_X8_see_21 I = some r) (E : EndR X cX8_see RX8 4 (some .int) 4 n (some (.inl r.1)) r.2 P O D Q) : Here X cX8_see RX8 4 (some .int) 4 n 21 [some (.inr (.inr (8, 0, 0))), none, none, none] [] I P O D n Q := by
  unfold f_X8_see_21 at h
  refine h_aload_n dX8_see_21 rfl ?_
  refine h_iconst (1 : Int32) dX8_see_22 k_iconst_1 ?_
  obtain ⟨y1, hh1, h⟩ := obd_some h
  refine h_cVi [.inl (1 : Int32)] (m_X8_fail  hh1) cw_X8_298 dX8_see_23 rfl ok_8 (by decide) rfl (Or.inr rfl) rfl ?_
  cases h
  exact h_iret dX8_see_26 rfl E
def f_X8_see   (I : Mem) (v1 : Int32) (v2 : Int32) (v3 : Int32) : Option (Int32 × Mem) :=
  bnd (upd4 I 8 0 0 2 (0 : Int32)) fun I1' =>
  (f_X8_isCase I1' v1).bind fun y1 =>
  if y1 = 0 then (f_X8_see_21 I1') else ((f_X8_isJudge I1' v2).bind fun y2 =>
  if y2 = 0 then (f_X8_see_21 I1') else (if (I1' 8 0 0 34) = (8 : Int32) then ((f_X8_refuse I1' (2 : Int32)).bind fun y3 =>
  some (y3.1, y3.2)) else (gd (inb (I1' 8 0 0 34) 8) <|
  bnd (upd4 I1' 77 0 0 ((I1' 8 0 0 34).toNatClampNeg) v1) fun I2' =>
  gd (inb (I2' 8 0 0 34) 8) <|
  bnd (upd4 I2' 78 0 0 ((I2' 8 0 0 34).toNatClampNeg) v2) fun I3' =>
  if v3 = 0 then (f_X8_see_79 I3' (0 : Int32) (I3' 8 0 0 34)) else (f_X8_see_79 I3' (1 : Int32) (I3' 8 0 0 34)))))
theorem b_X8_see (X : CX) (Q : State → Prop) {I : Mem} {P : PMem} {O : Nat → Int64} {D : Bool} {n : Nat} {v1 : Int32} {v2 : Int32} {v3 : Int32} {r : (Int32 × Mem)}  (h : f_X8_see I v1 v2 v3 = some r) (E : EndR X cX8_see RX8 4 (some .int) 4 n (some (.inl r.1)) r.2 P O D Q) : Here X cX8_see RX8 4 (some .int) 4 n 0 [some (.inr (.inr (8, 0, 0))), some (.inl v1), some (.inl v2), some (.inl v3)] [] I P O D n Q := by
  unfold f_X8_see at h
  refine h_aload_n dX8_see_0 rfl ?_
  refine h_iconst (0 : Int32) dX8_see_1 k_iconst_0 ?_
  obtain ⟨I1', e1, h⟩ := bnd_some h
  refine p_X8_150  dX8_see_2 ?_
  refine h_nmI e1 ?_
  refine h_aload_n dX8_see_5 rfl ?_
  refine h_iload_n dX8_see_6 rfl ?_
  obtain ⟨y1, hh1, h⟩ := obd_some h
  refine h_cVi [.inl v1] (m_X8_isCase  hh1) cw_X8_424 dX8_see_7 rfl ok_8 (by decide) rfl (Or.inr rfl) rfl ?_
  refine h_if_eq (tgt := 21) dX8_see_10 (by decide) (fun q1 => ?_) (fun q1 => ?_)
  · rw [if_pos q1] at h
    exact h_mask [true, false, false, false] (b_X8_see_21 X Q  h E)
  · rw [if_neg q1] at h
    refine h_aload_n dX8_see_13 rfl ?_
    refine h_iload_n dX8_see_14 rfl ?_
    obtain ⟨y2, hh2, h⟩ := obd_some h
    refine h_cVi [.inl v2] (m_X8_isJudge  hh2) cw_X8_419 dX8_see_15 rfl ok_8 (by decide) rfl (Or.inr rfl) rfl ?_
    refine h_if_ne (tgt := 27) dX8_see_18 (by decide) (fun q2 => ?_) (fun q2 => ?_)
    · rw [if_neg q2] at h
      refine h_aload_n dX8_see_27 rfl ?_
      refine g_X8_326  dX8_see_28 ?_
      refine h_bipush (8 : Int32) dX8_see_31 k_bipush_8 ?_
      refine h_icmp_ne (tgt := 42) dX8_see_33 (by decide) (fun q3 => ?_) (fun q3 => ?_)
      · rw [if_neg q3] at h
        refine h_aload_n dX8_see_42 rfl ?_
        refine g_X8_123  dX8_see_43 ?_
        refine h_aload_n dX8_see_46 rfl ?_
        refine g_X8_326  dX8_see_47 ?_
        refine h_iload_n dX8_see_50 rfl ?_
        obtain ⟨g1, h⟩ := gd_some h
        obtain ⟨I2', e2, h⟩ := bnd_some h
        refine as_77  ((I1' 8 0 0 34).toNatClampNeg) rfl dX8_see_51 g1 ?_
        refine h_nmI e2 ?_
        refine h_aload_n dX8_see_52 rfl ?_
        refine g_X8_126  dX8_see_53 ?_
        refine h_aload_n dX8_see_56 rfl ?_
        refine g_X8_326  dX8_see_57 ?_
        refine h_iload_n dX8_see_60 rfl ?_
        obtain ⟨g2, h⟩ := gd_some h
        obtain ⟨I3', e3, h⟩ := bnd_some h
        refine as_78  ((I2' 8 0 0 34).toNatClampNeg) rfl dX8_see_61 g2 ?_
        refine h_nmI e3 ?_
        refine h_aload_n dX8_see_62 rfl ?_
        refine g_X8_129  dX8_see_63 ?_
        refine h_aload_n dX8_see_66 rfl ?_
        refine g_X8_326  dX8_see_67 ?_
        refine h_iload_n dX8_see_70 rfl ?_
        refine h_if_eq (tgt := 78) dX8_see_71 (by decide) (fun q4 => ?_) (fun q4 => ?_)
        · rw [if_pos q4] at h
          refine h_iconst (0 : Int32) dX8_see_78 k_iconst_0 ?_
          exact h_mask [true, false, false, false] (b_X8_see_79 X Q  h E)
        · rw [if_neg q4] at h
          refine h_iconst (1 : Int32) dX8_see_74 k_iconst_1 ?_
          refine h_goto (tgt := 79) dX8_see_75 (by decide) ?_
          exact h_mask [true, false, false, false] (b_X8_see_79 X Q  h E)
      · rw [if_pos q3] at h
        refine h_aload_n dX8_see_36 rfl ?_
        refine h_iconst (2 : Int32) dX8_see_37 k_iconst_2 ?_
        obtain ⟨y3, hh3, h⟩ := obd_some h
        refine h_cVi [.inl (2 : Int32)] (m_X8_refuse  hh3) cw_X8_435 dX8_see_38 rfl ok_8 (by decide) rfl (Or.inr rfl) rfl ?_
        cases h
        exact h_iret dX8_see_41 rfl E
    · rw [if_pos q2] at h
      exact h_mask [true, false, false, false] (b_X8_see_21 X Q  h E)
theorem m_X8_see {I : Mem} {P : PMem} {O : Nat → Int64} {D : Bool} {n : Nat} {v1 : Int32} {v2 : Int32} {v3 : Int32} {r : (Int32 × Mem)}  (h : f_X8_see I v1 v2 v3 = some r) : MethR yX8_see cX8_see 4 (some .int) 4 [.inr (.inr (8, 0, 0)), .inl v1, .inl v2, .inl v3] I P O D n (some (.inl r.1)) r.2 P O D n := meth_R (Nat.le_refl _) (by decide) rfl (Nat.le_of_ble_eq_true rfl) rfl (fun X Q E => b_X8_see X Q  h E)
