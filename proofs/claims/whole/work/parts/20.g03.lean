theorem dX1_firstNews_0 : decode cX1_firstNews 0 = .ok (.iconst (-1), 1) := by decide +kernel
theorem dX1_firstNews_1 : decode cX1_firstNews 1 = .ok (.istore_n 3, 1) := by decide +kernel
theorem dX1_firstNews_2 : decode cX1_firstNews 2 = .ok (.iconst 0, 1) := by decide +kernel
theorem dX1_firstNews_3 : decode cX1_firstNews 3 = .ok (.istore 4, 2) := by decide +kernel
theorem dX1_firstNews_5 : decode cX1_firstNews 5 = .ok (.iload 4, 2) := by decide +kernel
theorem dX1_firstNews_7 : decode cX1_firstNews 7 = .ok (.aload_n 0, 1) := by decide +kernel
theorem dX1_firstNews_8 : decode cX1_firstNews 8 = .ok (.getfield 44, 3) := by decide +kernel
theorem dX1_firstNews_11 : decode cX1_firstNews 11 = .ok (.getfield 56, 3) := by decide +kernel
theorem dX1_firstNews_14 : decode cX1_firstNews 14 = .ok (.if_icmp .ge 50, 3) := by decide +kernel
theorem dX1_firstNews_17 : decode cX1_firstNews 17 = .ok (.aload_n 0, 1) := by decide +kernel
theorem dX1_firstNews_18 : decode cX1_firstNews 18 = .ok (.getfield 19, 3) := by decide +kernel
theorem dX1_firstNews_21 : decode cX1_firstNews 21 = .ok (.iload_n 1, 1) := by decide +kernel
theorem dX1_firstNews_22 : decode cX1_firstNews 22 = .ok (.aaload, 1) := by decide +kernel
theorem dX1_firstNews_23 : decode cX1_firstNews 23 = .ok (.iload 4, 2) := by decide +kernel
theorem dX1_firstNews_25 : decode cX1_firstNews 25 = .ok (.iaload, 1) := by decide +kernel
theorem dX1_firstNews_26 : decode cX1_firstNews 26 = .ok (.iconst (-1), 1) := by decide +kernel
theorem dX1_firstNews_27 : decode cX1_firstNews 27 = .ok (.if_icmp .eq 31, 3) := by decide +kernel
theorem dX1_firstNews_30 : decode cX1_firstNews 30 = .ok (.iload_n 3, 1) := by decide +kernel
theorem dX1_firstNews_31 : decode cX1_firstNews 31 = .ok (.aload_n 0, 1) := by decide +kernel
theorem dX1_firstNews_32 : decode cX1_firstNews 32 = .ok (.aload_n 0, 1) := by decide +kernel
theorem dX1_firstNews_33 : decode cX1_firstNews 33 = .ok (.getfield 22, 3) := by decide +kernel
theorem dX1_firstNews_36 : decode cX1_firstNews 36 = .ok (.iload_n 1, 1) := by decide +kernel
theorem dX1_firstNews_37 : decode cX1_firstNews 37 = .ok (.aaload, 1) := by decide +kernel
theorem dX1_firstNews_38 : decode cX1_firstNews 38 = .ok (.iload 4, 2) := by decide +kernel
theorem dX1_firstNews_40 : decode cX1_firstNews 40 = .ok (.iaload, 1) := by decide +kernel
theorem dX1_firstNews_41 : decode cX1_firstNews 41 = .ok (.aload_n 0, 1) := by decide +kernel
theorem dX1_firstNews_42 : decode cX1_firstNews 42 = .ok (.getfield 19, 3) := by decide +kernel
theorem dX1_firstNews_45 : decode cX1_firstNews 45 = .ok (.iload_n 1, 1) := by decide +kernel
theorem dX1_firstNews_46 : decode cX1_firstNews 46 = .ok (.aaload, 1) := by decide +kernel
theorem dX1_firstNews_47 : decode cX1_firstNews 47 = .ok (.iload 4, 2) := by decide +kernel
theorem dX1_firstNews_49 : decode cX1_firstNews 49 = .ok (.iaload, 1) := by decide +kernel
theorem dX1_firstNews_50 : decode cX1_firstNews 50 = .ok (.iload_n 2, 1) := by decide +kernel
theorem dX1_firstNews_51 : decode cX1_firstNews 51 = .ok (.invokevirtual 172, 3) := by decide +kernel
theorem dX1_firstNews_54 : decode cX1_firstNews 54 = .ok (.invokestatic 175, 3) := by decide +kernel
theorem dX1_firstNews_57 : decode cX1_firstNews 57 = .ok (.istore_n 3, 1) := by decide +kernel
theorem dX1_firstNews_58 : decode cX1_firstNews 58 = .ok (.iinc 4 1, 3) := by decide +kernel
theorem dX1_firstNews_61 : decode cX1_firstNews 61 = .ok (.goto (-56), 3) := by decide +kernel
theorem dX1_firstNews_64 : decode cX1_firstNews 64 = .ok (.aload_n 0, 1) := by decide +kernel
theorem dX1_firstNews_65 : decode cX1_firstNews 65 = .ok (.getfield 48, 3) := by decide +kernel
theorem dX1_firstNews_68 : decode cX1_firstNews 68 = .ok (.getfield 162, 3) := by decide +kernel
theorem dX1_firstNews_71 : decode cX1_firstNews 71 = .ok (.astore 4, 2) := by decide +kernel
theorem dX1_firstNews_73 : decode cX1_firstNews 73 = .ok (.iconst 0, 1) := by decide +kernel
theorem dX1_firstNews_74 : decode cX1_firstNews 74 = .ok (.istore 5, 2) := by decide +kernel
theorem dX1_firstNews_76 : decode cX1_firstNews 76 = .ok (.iload 5, 2) := by decide +kernel
theorem dX1_firstNews_78 : decode cX1_firstNews 78 = .ok (.aload 4, 2) := by decide +kernel
theorem dX1_firstNews_80 : decode cX1_firstNews 80 = .ok (.getfield 144, 3) := by decide +kernel
theorem dX1_firstNews_83 : decode cX1_firstNews 83 = .ok (.if_icmp .ge 47, 3) := by decide +kernel
theorem dX1_firstNews_86 : decode cX1_firstNews 86 = .ok (.aload 4, 2) := by decide +kernel
theorem dX1_firstNews_88 : decode cX1_firstNews 88 = .ok (.getfield 149, 3) := by decide +kernel
theorem dX1_firstNews_91 : decode cX1_firstNews 91 = .ok (.iload 5, 2) := by decide +kernel
theorem dX1_firstNews_93 : decode cX1_firstNews 93 = .ok (.iaload, 1) := by decide +kernel
theorem dX1_firstNews_94 : decode cX1_firstNews 94 = .ok (.iload_n 1, 1) := by decide +kernel
theorem dX1_firstNews_95 : decode cX1_firstNews 95 = .ok (.if_icmp .ne 29, 3) := by decide +kernel
theorem dX1_firstNews_98 : decode cX1_firstNews 98 = .ok (.iload_n 3, 1) := by decide +kernel
theorem dX1_firstNews_99 : decode cX1_firstNews 99 = .ok (.aload_n 0, 1) := by decide +kernel
theorem dX1_firstNews_100 : decode cX1_firstNews 100 = .ok (.aload 4, 2) := by decide +kernel
theorem dX1_firstNews_102 : decode cX1_firstNews 102 = .ok (.getfield 152, 3) := by decide +kernel
theorem dX1_firstNews_105 : decode cX1_firstNews 105 = .ok (.iload 5, 2) := by decide +kernel
theorem dX1_firstNews_107 : decode cX1_firstNews 107 = .ok (.iaload, 1) := by decide +kernel
theorem dX1_firstNews_108 : decode cX1_firstNews 108 = .ok (.aload 4, 2) := by decide +kernel
theorem dX1_firstNews_110 : decode cX1_firstNews 110 = .ok (.getfield 155, 3) := by decide +kernel
theorem dX1_firstNews_113 : decode cX1_firstNews 113 = .ok (.iload 5, 2) := by decide +kernel
theorem dX1_firstNews_115 : decode cX1_firstNews 115 = .ok (.iaload, 1) := by decide +kernel
theorem dX1_firstNews_116 : decode cX1_firstNews 116 = .ok (.iload_n 2, 1) := by decide +kernel
theorem dX1_firstNews_117 : decode cX1_firstNews 117 = .ok (.invokevirtual 172, 3) := by decide +kernel
theorem dX1_firstNews_120 : decode cX1_firstNews 120 = .ok (.invokestatic 175, 3) := by decide +kernel
theorem dX1_firstNews_123 : decode cX1_firstNews 123 = .ok (.istore_n 3, 1) := by decide +kernel
theorem dX1_firstNews_124 : decode cX1_firstNews 124 = .ok (.iinc 5 1, 3) := by decide +kernel
theorem dX1_firstNews_127 : decode cX1_firstNews 127 = .ok (.goto (-51), 3) := by decide +kernel
theorem dX1_firstNews_130 : decode cX1_firstNews 130 = .ok (.iload_n 3, 1) := by decide +kernel
theorem dX1_firstNews_131 : decode cX1_firstNews 131 = .ok (.ireturn, 1) := by decide +kernel
theorem dX1_voids_0 : decode cX1_voids 0 = .ok (.aload_n 0, 1) := by decide +kernel
theorem dX1_voids_1 : decode cX1_voids 1 = .ok (.getfield 28, 3) := by decide +kernel
theorem dX1_voids_4 : decode cX1_voids 4 = .ok (.iload_n 1, 1) := by decide +kernel
theorem dX1_voids_5 : decode cX1_voids 5 = .ok (.iaload, 1) := by decide +kernel
theorem dX1_voids_6 : decode cX1_voids 6 = .ok (.aload_n 0, 1) := by decide +kernel
theorem dX1_voids_7 : decode cX1_voids 7 = .ok (.getfield 52, 3) := by decide +kernel
theorem dX1_voids_10 : decode cX1_voids 10 = .ok (.iconst (-1), 1) := by decide +kernel
theorem dX1_voids_11 : decode cX1_voids 11 = .ok (.ixor, 1) := by decide +kernel
theorem dX1_voids_12 : decode cX1_voids 12 = .ok (.iand, 1) := by decide +kernel
theorem dX1_voids_13 : decode cX1_voids 13 = .ok (.ireturn, 1) := by decide +kernel
theorem dX1_trioDay_0 : decode cX1_trioDay 0 = .ok (.iconst (-1), 1) := by decide +kernel
theorem dX1_trioDay_1 : decode cX1_trioDay 1 = .ok (.istore_n 2, 1) := by decide +kernel
theorem dX1_trioDay_2 : decode cX1_trioDay 2 = .ok (.iconst 0, 1) := by decide +kernel
theorem dX1_trioDay_3 : decode cX1_trioDay 3 = .ok (.istore_n 3, 1) := by decide +kernel
theorem dX1_trioDay_4 : decode cX1_trioDay 4 = .ok (.iload_n 3, 1) := by decide +kernel
theorem dX1_trioDay_5 : decode cX1_trioDay 5 = .ok (.aload_n 0, 1) := by decide +kernel
theorem dX1_trioDay_6 : decode cX1_trioDay 6 = .ok (.getfield 44, 3) := by decide +kernel
theorem dX1_trioDay_9 : decode cX1_trioDay 9 = .ok (.getfield 56, 3) := by decide +kernel
theorem dX1_trioDay_12 : decode cX1_trioDay 12 = .ok (.if_icmp .ge 36, 3) := by decide +kernel
theorem dX1_trioDay_15 : decode cX1_trioDay 15 = .ok (.aload_n 0, 1) := by decide +kernel
theorem dX1_trioDay_16 : decode cX1_trioDay 16 = .ok (.getfield 35, 3) := by decide +kernel
theorem dX1_trioDay_19 : decode cX1_trioDay 19 = .ok (.iload_n 1, 1) := by decide +kernel
theorem dX1_trioDay_20 : decode cX1_trioDay 20 = .ok (.iaload, 1) := by decide +kernel
theorem dX1_trioDay_21 : decode cX1_trioDay 21 = .ok (.iload_n 3, 1) := by decide +kernel
theorem dX1_trioDay_22 : decode cX1_trioDay 22 = .ok (.iushr, 1) := by decide +kernel
theorem dX1_trioDay_23 : decode cX1_trioDay 23 = .ok (.iconst 1, 1) := by decide +kernel
theorem dX1_trioDay_24 : decode cX1_trioDay 24 = .ok (.iand, 1) := by decide +kernel
theorem dX1_trioDay_25 : decode cX1_trioDay 25 = .ok (.iconst 1, 1) := by decide +kernel
theorem dX1_trioDay_26 : decode cX1_trioDay 26 = .ok (.if_icmp .ne 16, 3) := by decide +kernel
theorem dX1_trioDay_29 : decode cX1_trioDay 29 = .ok (.iload_n 2, 1) := by decide +kernel
theorem dX1_trioDay_30 : decode cX1_trioDay 30 = .ok (.aload_n 0, 1) := by decide +kernel
theorem dX1_trioDay_31 : decode cX1_trioDay 31 = .ok (.getfield 19, 3) := by decide +kernel
theorem dX1_trioDay_34 : decode cX1_trioDay 34 = .ok (.iload_n 1, 1) := by decide +kernel
theorem dX1_trioDay_35 : decode cX1_trioDay 35 = .ok (.aaload, 1) := by decide +kernel
theorem dX1_trioDay_36 : decode cX1_trioDay 36 = .ok (.iload_n 3, 1) := by decide +kernel
theorem dX1_trioDay_37 : decode cX1_trioDay 37 = .ok (.iaload, 1) := by decide +kernel
theorem dX1_trioDay_38 : decode cX1_trioDay 38 = .ok (.invokestatic 178, 3) := by decide +kernel
theorem dX1_trioDay_41 : decode cX1_trioDay 41 = .ok (.istore_n 2, 1) := by decide +kernel
theorem dX1_trioDay_42 : decode cX1_trioDay 42 = .ok (.iinc 3 1, 3) := by decide +kernel
theorem dX1_trioDay_45 : decode cX1_trioDay 45 = .ok (.goto (-41), 3) := by decide +kernel
theorem dX1_trioDay_48 : decode cX1_trioDay 48 = .ok (.iload_n 2, 1) := by decide +kernel
theorem dX1_trioDay_49 : decode cX1_trioDay 49 = .ok (.ireturn, 1) := by decide +kernel
theorem dX1_howManyGuilty_0 : decode cX1_howManyGuilty 0 = .ok (.iconst 0, 1) := by decide +kernel
theorem dX1_howManyGuilty_1 : decode cX1_howManyGuilty 1 = .ok (.istore_n 1, 1) := by decide +kernel
theorem dX1_howManyGuilty_2 : decode cX1_howManyGuilty 2 = .ok (.iconst 0, 1) := by decide +kernel
theorem dX1_howManyGuilty_3 : decode cX1_howManyGuilty 3 = .ok (.istore_n 2, 1) := by decide +kernel
theorem dX1_howManyGuilty_4 : decode cX1_howManyGuilty 4 = .ok (.iload_n 2, 1) := by decide +kernel
theorem dX1_howManyGuilty_5 : decode cX1_howManyGuilty 5 = .ok (.aload_n 0, 1) := by decide +kernel
theorem dX1_howManyGuilty_6 : decode cX1_howManyGuilty 6 = .ok (.getfield 44, 3) := by decide +kernel
theorem dX1_howManyGuilty_9 : decode cX1_howManyGuilty 9 = .ok (.getfield 95, 3) := by decide +kernel
theorem dX1_howManyGuilty_12 : decode cX1_howManyGuilty 12 = .ok (.if_icmp .ge 21, 3) := by decide +kernel
theorem dX1_howManyGuilty_15 : decode cX1_howManyGuilty 15 = .ok (.aload_n 0, 1) := by decide +kernel
theorem dX1_howManyGuilty_16 : decode cX1_howManyGuilty 16 = .ok (.getfield 35, 3) := by decide +kernel
theorem dX1_howManyGuilty_19 : decode cX1_howManyGuilty 19 = .ok (.iload_n 2, 1) := by decide +kernel
theorem dX1_howManyGuilty_20 : decode cX1_howManyGuilty 20 = .ok (.iaload, 1) := by decide +kernel
theorem dX1_howManyGuilty_21 : decode cX1_howManyGuilty 21 = .ok (.ifCond .eq 6, 3) := by decide +kernel
theorem dX1_howManyGuilty_24 : decode cX1_howManyGuilty 24 = .ok (.iinc 1 1, 3) := by decide +kernel
theorem dX1_howManyGuilty_27 : decode cX1_howManyGuilty 27 = .ok (.iinc 2 1, 3) := by decide +kernel
theorem dX1_howManyGuilty_30 : decode cX1_howManyGuilty 30 = .ok (.goto (-26), 3) := by decide +kernel
theorem dX1_howManyGuilty_33 : decode cX1_howManyGuilty 33 = .ok (.iload_n 1, 1) := by decide +kernel
theorem dX1_howManyGuilty_34 : decode cX1_howManyGuilty 34 = .ok (.ireturn, 1) := by decide +kernel
theorem dX1_isAllAsSeen_0 : decode cX1_isAllAsSeen 0 = .ok (.aload_n 0, 1) := by decide +kernel
theorem dX1_isAllAsSeen_1 : decode cX1_isAllAsSeen 1 = .ok (.getfield 48, 3) := by decide +kernel
theorem dX1_isAllAsSeen_4 : decode cX1_isAllAsSeen 4 = .ok (.getfield 218, 3) := by decide +kernel
theorem dX1_isAllAsSeen_7 : decode cX1_isAllAsSeen 7 = .ok (.astore_n 3, 1) := by decide +kernel
theorem dX1_isAllAsSeen_8 : decode cX1_isAllAsSeen 8 = .ok (.iconst 0, 1) := by decide +kernel
theorem dX1_isAllAsSeen_9 : decode cX1_isAllAsSeen 9 = .ok (.istore 4, 2) := by decide +kernel
theorem dX1_isAllAsSeen_11 : decode cX1_isAllAsSeen 11 = .ok (.iload 4, 2) := by decide +kernel
theorem dX1_isAllAsSeen_13 : decode cX1_isAllAsSeen 13 = .ok (.aload_n 3, 1) := by decide +kernel
theorem dX1_isAllAsSeen_14 : decode cX1_isAllAsSeen 14 = .ok (.getfield 144, 3) := by decide +kernel
theorem dX1_isAllAsSeen_17 : decode cX1_isAllAsSeen 17 = .ok (.if_icmp .ge 70, 3) := by decide +kernel
theorem dX1_isAllAsSeen_20 : decode cX1_isAllAsSeen 20 = .ok (.aload_n 3, 1) := by decide +kernel
theorem dX1_isAllAsSeen_21 : decode cX1_isAllAsSeen 21 = .ok (.getfield 149, 3) := by decide +kernel
theorem dX1_isAllAsSeen_24 : decode cX1_isAllAsSeen 24 = .ok (.iload 4, 2) := by decide +kernel
theorem dX1_isAllAsSeen_26 : decode cX1_isAllAsSeen 26 = .ok (.iaload, 1) := by decide +kernel
theorem dX1_isAllAsSeen_27 : decode cX1_isAllAsSeen 27 = .ok (.istore 5, 2) := by decide +kernel
theorem dX1_isAllAsSeen_29 : decode cX1_isAllAsSeen 29 = .ok (.aload_n 0, 1) := by decide +kernel
theorem dX1_isAllAsSeen_30 : decode cX1_isAllAsSeen 30 = .ok (.getfield 28, 3) := by decide +kernel
theorem dX1_isAllAsSeen_33 : decode cX1_isAllAsSeen 33 = .ok (.iload 5, 2) := by decide +kernel
theorem dX1_isAllAsSeen_35 : decode cX1_isAllAsSeen 35 = .ok (.iaload, 1) := by decide +kernel
theorem dX1_isAllAsSeen_36 : decode cX1_isAllAsSeen 36 = .ok (.iload 5, 2) := by decide +kernel
theorem dX1_isAllAsSeen_38 : decode cX1_isAllAsSeen 38 = .ok (.iload_n 1, 1) := by decide +kernel
theorem dX1_isAllAsSeen_39 : decode cX1_isAllAsSeen 39 = .ok (.if_icmp .ne 7, 3) := by decide +kernel
theorem dX1_isAllAsSeen_42 : decode cX1_isAllAsSeen 42 = .ok (.iload_n 2, 1) := by decide +kernel
theorem dX1_isAllAsSeen_43 : decode cX1_isAllAsSeen 43 = .ok (.goto 4, 3) := by decide +kernel
theorem dX1_isAllAsSeen_46 : decode cX1_isAllAsSeen 46 = .ok (.iconst 0, 1) := by decide +kernel
theorem dX1_isAllAsSeen_47 : decode cX1_isAllAsSeen 47 = .ok (.ior, 1) := by decide +kernel
theorem dX1_isAllAsSeen_48 : decode cX1_isAllAsSeen 48 = .ok (.istore 6, 2) := by decide +kernel
theorem dX1_isAllAsSeen_50 : decode cX1_isAllAsSeen 50 = .ok (.iload 6, 2) := by decide +kernel
theorem dX1_isAllAsSeen_52 : decode cX1_isAllAsSeen 52 = .ok (.aload_n 0, 1) := by decide +kernel
theorem dX1_isAllAsSeen_53 : decode cX1_isAllAsSeen 53 = .ok (.getfield 52, 3) := by decide +kernel
theorem dX1_isAllAsSeen_56 : decode cX1_isAllAsSeen 56 = .ok (.iconst (-1), 1) := by decide +kernel
theorem dX1_isAllAsSeen_57 : decode cX1_isAllAsSeen 57 = .ok (.ixor, 1) := by decide +kernel
theorem dX1_isAllAsSeen_58 : decode cX1_isAllAsSeen 58 = .ok (.iand, 1) := by decide +kernel
theorem dX1_isAllAsSeen_59 : decode cX1_isAllAsSeen 59 = .ok (.aload_n 3, 1) := by decide +kernel
theorem dX1_isAllAsSeen_60 : decode cX1_isAllAsSeen 60 = .ok (.getfield 152, 3) := by decide +kernel
theorem dX1_isAllAsSeen_63 : decode cX1_isAllAsSeen 63 = .ok (.iload 4, 2) := by decide +kernel
theorem dX1_isAllAsSeen_65 : decode cX1_isAllAsSeen 65 = .ok (.iaload, 1) := by decide +kernel
theorem dX1_isAllAsSeen_66 : decode cX1_isAllAsSeen 66 = .ok (.iushr, 1) := by decide +kernel
theorem dX1_isAllAsSeen_67 : decode cX1_isAllAsSeen 67 = .ok (.iconst 1, 1) := by decide +kernel
theorem dX1_isAllAsSeen_68 : decode cX1_isAllAsSeen 68 = .ok (.iand, 1) := by decide +kernel
theorem dX1_isAllAsSeen_69 : decode cX1_isAllAsSeen 69 = .ok (.aload_n 3, 1) := by decide +kernel
theorem dX1_isAllAsSeen_70 : decode cX1_isAllAsSeen 70 = .ok (.getfield 155, 3) := by decide +kernel
theorem dX1_isAllAsSeen_73 : decode cX1_isAllAsSeen 73 = .ok (.iload 4, 2) := by decide +kernel
theorem dX1_isAllAsSeen_75 : decode cX1_isAllAsSeen 75 = .ok (.iaload, 1) := by decide +kernel
theorem dX1_isAllAsSeen_76 : decode cX1_isAllAsSeen 76 = .ok (.if_icmp .eq 5, 3) := by decide +kernel
theorem dX1_isAllAsSeen_79 : decode cX1_isAllAsSeen 79 = .ok (.iconst 0, 1) := by decide +kernel
theorem dX1_isAllAsSeen_80 : decode cX1_isAllAsSeen 80 = .ok (.ireturn, 1) := by decide +kernel
theorem dX1_isAllAsSeen_81 : decode cX1_isAllAsSeen 81 = .ok (.iinc 4 1, 3) := by decide +kernel
theorem dX1_isAllAsSeen_84 : decode cX1_isAllAsSeen 84 = .ok (.goto (-73), 3) := by decide +kernel
theorem dX1_isAllAsSeen_87 : decode cX1_isAllAsSeen 87 = .ok (.iconst 1, 1) := by decide +kernel
theorem dX1_isAllAsSeen_88 : decode cX1_isAllAsSeen 88 = .ok (.ireturn, 1) := by decide +kernel
theorem dX1_playGame_0 : decode cX1_playGame 0 = .ok (.iconst 0, 1) := by decide +kernel
theorem dX1_playGame_1 : decode cX1_playGame 1 = .ok (.istore_n 2, 1) := by decide +kernel
theorem dX1_playGame_2 : decode cX1_playGame 2 = .ok (.iload_n 2, 1) := by decide +kernel
theorem dX1_playGame_3 : decode cX1_playGame 3 = .ok (.aload_n 0, 1) := by decide +kernel
theorem dX1_playGame_4 : decode cX1_playGame 4 = .ok (.getfield 44, 3) := by decide +kernel
theorem dX1_playGame_7 : decode cX1_playGame 7 = .ok (.getfield 56, 3) := by decide +kernel
theorem dX1_playGame_10 : decode cX1_playGame 10 = .ok (.if_icmp .ge 66, 3) := by decide +kernel
theorem dX1_playGame_13 : decode cX1_playGame 13 = .ok (.aload_n 0, 1) := by decide +kernel
theorem dX1_playGame_14 : decode cX1_playGame 14 = .ok (.getfield 41, 3) := by decide +kernel
theorem dX1_playGame_17 : decode cX1_playGame 17 = .ok (.iload_n 2, 1) := by decide +kernel
theorem dX1_playGame_18 : decode cX1_playGame 18 = .ok (.iconst 0, 1) := by decide +kernel
theorem dX1_playGame_19 : decode cX1_playGame 19 = .ok (.iastore, 1) := by decide +kernel
theorem dX1_playGame_20 : decode cX1_playGame 20 = .ok (.iconst 0, 1) := by decide +kernel
theorem dX1_playGame_21 : decode cX1_playGame 21 = .ok (.istore_n 3, 1) := by decide +kernel
theorem dX1_playGame_22 : decode cX1_playGame 22 = .ok (.iload_n 3, 1) := by decide +kernel
theorem dX1_playGame_23 : decode cX1_playGame 23 = .ok (.aload_n 0, 1) := by decide +kernel
theorem dX1_playGame_24 : decode cX1_playGame 24 = .ok (.getfield 44, 3) := by decide +kernel
theorem dX1_playGame_27 : decode cX1_playGame 27 = .ok (.getfield 56, 3) := by decide +kernel
theorem dX1_playGame_30 : decode cX1_playGame 30 = .ok (.if_icmp .ge 40, 3) := by decide +kernel
theorem dX1_playGame_33 : decode cX1_playGame 33 = .ok (.aload_n 0, 1) := by decide +kernel
theorem dX1_playGame_34 : decode cX1_playGame 34 = .ok (.iload_n 1, 1) := by decide +kernel
theorem dX1_playGame_35 : decode cX1_playGame 35 = .ok (.iconst 1, 1) := by decide +kernel
theorem dX1_playGame_36 : decode cX1_playGame 36 = .ok (.iload_n 3, 1) := by decide +kernel
theorem dX1_playGame_37 : decode cX1_playGame 37 = .ok (.ishl, 1) := by decide +kernel
theorem dX1_playGame_38 : decode cX1_playGame 38 = .ok (.aload_n 0, 1) := by decide +kernel
theorem dX1_playGame_39 : decode cX1_playGame 39 = .ok (.getfield 52, 3) := by decide +kernel
theorem dX1_playGame_42 : decode cX1_playGame 42 = .ok (.iconst 1, 1) := by decide +kernel
theorem dX1_playGame_43 : decode cX1_playGame 43 = .ok (.iload_n 2, 1) := by decide +kernel
theorem dX1_playGame_44 : decode cX1_playGame 44 = .ok (.ishl, 1) := by decide +kernel
theorem dX1_playGame_45 : decode cX1_playGame 45 = .ok (.ior, 1) := by decide +kernel
theorem dX1_playGame_46 : decode cX1_playGame 46 = .ok (.invokevirtual 201, 3) := by decide +kernel
theorem dX1_playGame_49 : decode cX1_playGame 49 = .ok (.ifCond .eq 15, 3) := by decide +kernel
theorem dX1_playGame_52 : decode cX1_playGame 52 = .ok (.aload_n 0, 1) := by decide +kernel
theorem dX1_playGame_53 : decode cX1_playGame 53 = .ok (.getfield 41, 3) := by decide +kernel
theorem dX1_playGame_56 : decode cX1_playGame 56 = .ok (.iload_n 2, 1) := by decide +kernel
theorem dX1_playGame_57 : decode cX1_playGame 57 = .ok (.dup2, 1) := by decide +kernel
theorem dX1_playGame_58 : decode cX1_playGame 58 = .ok (.iaload, 1) := by decide +kernel
theorem dX1_playGame_59 : decode cX1_playGame 59 = .ok (.iconst 1, 1) := by decide +kernel
theorem dX1_playGame_60 : decode cX1_playGame 60 = .ok (.iload_n 3, 1) := by decide +kernel
theorem dX1_playGame_61 : decode cX1_playGame 61 = .ok (.ishl, 1) := by decide +kernel
theorem dX1_playGame_62 : decode cX1_playGame 62 = .ok (.ior, 1) := by decide +kernel
theorem dX1_playGame_63 : decode cX1_playGame 63 = .ok (.iastore, 1) := by decide +kernel
theorem dX1_playGame_64 : decode cX1_playGame 64 = .ok (.iinc 3 1, 3) := by decide +kernel
theorem dX1_playGame_67 : decode cX1_playGame 67 = .ok (.goto (-45), 3) := by decide +kernel
theorem dX1_playGame_70 : decode cX1_playGame 70 = .ok (.iinc 2 1, 3) := by decide +kernel
theorem dX1_playGame_73 : decode cX1_playGame 73 = .ok (.goto (-71), 3) := by decide +kernel
theorem dX1_playGame_76 : decode cX1_playGame 76 = .ok (.return_, 1) := by decide +kernel
theorem dX1_rests_0 : decode cX1_rests 0 = .ok (.aload_n 0, 1) := by decide +kernel
theorem dX1_rests_1 : decode cX1_rests 1 = .ok (.getfield 41, 3) := by decide +kernel
theorem dX1_rests_4 : decode cX1_rests 4 = .ok (.iload_n 1, 1) := by decide +kernel
theorem dX1_rests_5 : decode cX1_rests 5 = .ok (.iaload, 1) := by decide +kernel
theorem dX1_rests_6 : decode cX1_rests 6 = .ok (.iload_n 2, 1) := by decide +kernel
theorem dX1_rests_7 : decode cX1_rests 7 = .ok (.iushr, 1) := by decide +kernel
theorem dX1_rests_8 : decode cX1_rests 8 = .ok (.iconst 1, 1) := by decide +kernel
theorem dX1_rests_9 : decode cX1_rests 9 = .ok (.iand, 1) := by decide +kernel
theorem dX1_rests_10 : decode cX1_rests 10 = .ok (.istore_n 3, 1) := by decide +kernel
theorem dX1_rests_11 : decode cX1_rests 11 = .ok (.iconst 0, 1) := by decide +kernel
theorem dX1_rests_12 : decode cX1_rests 12 = .ok (.istore 4, 2) := by decide +kernel
theorem dX1_rests_14 : decode cX1_rests 14 = .ok (.iload 4, 2) := by decide +kernel
theorem dX1_rests_16 : decode cX1_rests 16 = .ok (.aload_n 0, 1) := by decide +kernel
theorem dX1_rests_17 : decode cX1_rests 17 = .ok (.getfield 44, 3) := by decide +kernel
theorem dX1_rests_20 : decode cX1_rests 20 = .ok (.getfield 56, 3) := by decide +kernel
theorem dX1_rests_23 : decode cX1_rests 23 = .ok (.if_icmp .ge 41, 3) := by decide +kernel
theorem dX1_rests_26 : decode cX1_rests 26 = .ok (.aload_n 0, 1) := by decide +kernel
theorem dX1_rests_27 : decode cX1_rests 27 = .ok (.getfield 41, 3) := by decide +kernel
theorem dX1_rests_30 : decode cX1_rests 30 = .ok (.iload 4, 2) := by decide +kernel
theorem dX1_rests_32 : decode cX1_rests 32 = .ok (.iaload, 1) := by decide +kernel
theorem dX1_rests_33 : decode cX1_rests 33 = .ok (.iload_n 2, 1) := by decide +kernel
theorem dX1_rests_34 : decode cX1_rests 34 = .ok (.iushr, 1) := by decide +kernel
theorem dX1_rests_35 : decode cX1_rests 35 = .ok (.iconst 1, 1) := by decide +kernel
theorem dX1_rests_36 : decode cX1_rests 36 = .ok (.iand, 1) := by decide +kernel
theorem dX1_rests_37 : decode cX1_rests 37 = .ok (.iload_n 3, 1) := by decide +kernel
theorem dX1_rests_38 : decode cX1_rests 38 = .ok (.if_icmp .gt 18, 3) := by decide +kernel
theorem dX1_rests_41 : decode cX1_rests 41 = .ok (.aload_n 0, 1) := by decide +kernel
theorem dX1_rests_42 : decode cX1_rests 42 = .ok (.getfield 41, 3) := by decide +kernel
theorem dX1_rests_45 : decode cX1_rests 45 = .ok (.iload_n 1, 1) := by decide +kernel
theorem dX1_rests_46 : decode cX1_rests 46 = .ok (.iaload, 1) := by decide +kernel
theorem dX1_rests_47 : decode cX1_rests 47 = .ok (.iload 4, 2) := by decide +kernel
theorem dX1_rests_49 : decode cX1_rests 49 = .ok (.iushr, 1) := by decide +kernel
theorem dX1_rests_50 : decode cX1_rests 50 = .ok (.iconst 1, 1) := by decide +kernel
theorem dX1_rests_51 : decode cX1_rests 51 = .ok (.iand, 1) := by decide +kernel
theorem dX1_rests_52 : decode cX1_rests 52 = .ok (.iload_n 3, 1) := by decide +kernel
theorem dX1_rests_53 : decode cX1_rests 53 = .ok (.if_icmp .ge 5, 3) := by decide +kernel
theorem dX1_rests_56 : decode cX1_rests 56 = .ok (.iconst 0, 1) := by decide +kernel
theorem dX1_rests_57 : decode cX1_rests 57 = .ok (.ireturn, 1) := by decide +kernel
theorem dX1_rests_58 : decode cX1_rests 58 = .ok (.iinc 4 1, 3) := by decide +kernel
theorem dX1_rests_61 : decode cX1_rests 61 = .ok (.goto (-47), 3) := by decide +kernel
theorem dX1_rests_64 : decode cX1_rests 64 = .ok (.iconst 1, 1) := by decide +kernel
theorem dX1_rests_65 : decode cX1_rests 65 = .ok (.ireturn, 1) := by decide +kernel
theorem dX2_draw_0 : decode cX2_draw 0 = .ok (.aload_n 0, 1) := by decide +kernel
theorem dX2_draw_1 : decode cX2_draw 1 = .ok (.aload_n 0, 1) := by decide +kernel
theorem dX2_draw_2 : decode cX2_draw 2 = .ok (.getfield 7, 3) := by decide +kernel
theorem dX2_draw_5 : decode cX2_draw 5 = .ok (.ldc 13, 2) := by decide +kernel
theorem dX2_draw_7 : decode cX2_draw 7 = .ok (.imul, 1) := by decide +kernel
theorem dX2_draw_8 : decode cX2_draw 8 = .ok (.sipush 12345, 3) := by decide +kernel
theorem dX2_draw_11 : decode cX2_draw 11 = .ok (.iadd, 1) := by decide +kernel
theorem dX2_draw_12 : decode cX2_draw 12 = .ok (.putfield 7, 3) := by decide +kernel
theorem dX2_draw_15 : decode cX2_draw 15 = .ok (.aload_n 0, 1) := by decide +kernel
theorem dX2_draw_16 : decode cX2_draw 16 = .ok (.getfield 7, 3) := by decide +kernel
theorem dX2_draw_19 : decode cX2_draw 19 = .ok (.bipush 16, 2) := by decide +kernel
theorem dX2_draw_21 : decode cX2_draw 21 = .ok (.iushr, 1) := by decide +kernel
theorem dX2_draw_22 : decode cX2_draw 22 = .ok (.sipush 32767, 3) := by decide +kernel
theorem dX2_draw_25 : decode cX2_draw 25 = .ok (.iand, 1) := by decide +kernel
theorem dX2_draw_26 : decode cX2_draw 26 = .ok (.istore_n 2, 1) := by decide +kernel
theorem dX2_draw_27 : decode cX2_draw 27 = .ok (.iload_n 1, 1) := by decide +kernel
theorem dX2_draw_28 : decode cX2_draw 28 = .ok (.ifCond .le 9, 3) := by decide +kernel
theorem dX2_draw_31 : decode cX2_draw 31 = .ok (.iload_n 2, 1) := by decide +kernel
theorem dX2_draw_32 : decode cX2_draw 32 = .ok (.iload_n 1, 1) := by decide +kernel
theorem dX2_draw_33 : decode cX2_draw 33 = .ok (.irem, 1) := by decide +kernel
theorem dX2_draw_34 : decode cX2_draw 34 = .ok (.goto 4, 3) := by decide +kernel
theorem dX2_draw_37 : decode cX2_draw 37 = .ok (.iconst 0, 1) := by decide +kernel
theorem dX2_draw_38 : decode cX2_draw 38 = .ok (.ireturn, 1) := by decide +kernel
theorem dX4_clear_0 : decode cX4_clear 0 = .ok (.aload_n 0, 1) := by decide +kernel
theorem dX4_clear_1 : decode cX4_clear 1 = .ok (.iconst 0, 1) := by decide +kernel
theorem dX4_clear_2 : decode cX4_clear 2 = .ok (.putfield 21, 3) := by decide +kernel
theorem dX4_clear_5 : decode cX4_clear 5 = .ok (.return_, 1) := by decide +kernel
theorem dX3_clear_0 : decode cX3_clear 0 = .ok (.aload_n 0, 1) := by decide +kernel
theorem dX3_clear_1 : decode cX3_clear 1 = .ok (.iconst 0, 1) := by decide +kernel
theorem dX3_clear_2 : decode cX3_clear 2 = .ok (.putfield 48, 3) := by decide +kernel
theorem dX3_clear_5 : decode cX3_clear 5 = .ok (.aload_n 0, 1) := by decide +kernel
theorem dX3_clear_6 : decode cX3_clear 6 = .ok (.iconst 0, 1) := by decide +kernel
theorem dX3_clear_7 : decode cX3_clear 7 = .ok (.putfield 52, 3) := by decide +kernel
theorem dX3_clear_10 : decode cX3_clear 10 = .ok (.aload_n 0, 1) := by decide +kernel
theorem dX3_clear_11 : decode cX3_clear 11 = .ok (.iconst 0, 1) := by decide +kernel
theorem dX3_clear_12 : decode cX3_clear 12 = .ok (.putfield 55, 3) := by decide +kernel
theorem dX3_clear_15 : decode cX3_clear 15 = .ok (.aload_n 0, 1) := by decide +kernel
theorem dX3_clear_16 : decode cX3_clear 16 = .ok (.iconst 0, 1) := by decide +kernel
theorem dX3_clear_17 : decode cX3_clear 17 = .ok (.putfield 58, 3) := by decide +kernel
theorem dX3_clear_20 : decode cX3_clear 20 = .ok (.aload_n 0, 1) := by decide +kernel
theorem dX3_clear_21 : decode cX3_clear 21 = .ok (.iconst 0, 1) := by decide +kernel
theorem dX3_clear_22 : decode cX3_clear 22 = .ok (.putfield 61, 3) := by decide +kernel
theorem dX3_clear_25 : decode cX3_clear 25 = .ok (.aload_n 0, 1) := by decide +kernel
theorem dX3_clear_26 : decode cX3_clear 26 = .ok (.iconst 0, 1) := by decide +kernel
theorem dX3_clear_27 : decode cX3_clear 27 = .ok (.putfield 64, 3) := by decide +kernel
theorem dX3_clear_30 : decode cX3_clear 30 = .ok (.aload_n 0, 1) := by decide +kernel
theorem dX3_clear_31 : decode cX3_clear 31 = .ok (.getfield 44, 3) := by decide +kernel
theorem dX3_clear_34 : decode cX3_clear 34 = .ok (.invokevirtual 67, 3) := by decide +kernel
theorem dX3_clear_37 : decode cX3_clear 37 = .ok (.iconst 0, 1) := by decide +kernel
theorem dX3_clear_38 : decode cX3_clear 38 = .ok (.istore_n 1, 1) := by decide +kernel
theorem dX3_clear_39 : decode cX3_clear 39 = .ok (.iload_n 1, 1) := by decide +kernel
theorem dX3_clear_40 : decode cX3_clear 40 = .ok (.bipush 9, 2) := by decide +kernel
theorem dX3_clear_42 : decode cX3_clear 42 = .ok (.if_icmp .ge 19, 3) := by decide +kernel
theorem dX3_clear_45 : decode cX3_clear 45 = .ok (.aload_n 0, 1) := by decide +kernel
theorem dX3_clear_46 : decode cX3_clear 46 = .ok (.getfield 11, 3) := by decide +kernel
theorem dX3_clear_49 : decode cX3_clear 49 = .ok (.iload_n 1, 1) := by decide +kernel
theorem dX3_clear_50 : decode cX3_clear 50 = .ok (.aaload, 1) := by decide +kernel
theorem dX3_clear_51 : decode cX3_clear 51 = .ok (.iconst 0, 1) := by decide +kernel
theorem dX3_clear_52 : decode cX3_clear 52 = .ok (.invokestatic 70, 3) := by decide +kernel
theorem dX3_clear_55 : decode cX3_clear 55 = .ok (.iinc 1 1, 3) := by decide +kernel
theorem dX3_clear_58 : decode cX3_clear 58 = .ok (.goto (-19), 3) := by decide +kernel
theorem dX3_clear_61 : decode cX3_clear 61 = .ok (.iconst 0, 1) := by decide +kernel
theorem dX3_clear_62 : decode cX3_clear 62 = .ok (.istore_n 1, 1) := by decide +kernel
theorem dX3_clear_63 : decode cX3_clear 63 = .ok (.iload_n 1, 1) := by decide +kernel
theorem dX3_clear_64 : decode cX3_clear 64 = .ok (.bipush 6, 2) := by decide +kernel
theorem dX3_clear_66 : decode cX3_clear 66 = .ok (.if_icmp .ge 19, 3) := by decide +kernel
theorem dX3_clear_69 : decode cX3_clear 69 = .ok (.aload_n 0, 1) := by decide +kernel
theorem dX3_clear_70 : decode cX3_clear 70 = .ok (.getfield 38, 3) := by decide +kernel
theorem dX3_clear_73 : decode cX3_clear 73 = .ok (.iload_n 1, 1) := by decide +kernel
theorem dX3_clear_74 : decode cX3_clear 74 = .ok (.aaload, 1) := by decide +kernel
theorem dX3_clear_75 : decode cX3_clear 75 = .ok (.iconst (-1), 1) := by decide +kernel
theorem dX3_clear_76 : decode cX3_clear 76 = .ok (.invokestatic 70, 3) := by decide +kernel
theorem dX3_clear_79 : decode cX3_clear 79 = .ok (.iinc 1 1, 3) := by decide +kernel
theorem dX3_clear_82 : decode cX3_clear 82 = .ok (.goto (-19), 3) := by decide +kernel
theorem dX3_clear_85 : decode cX3_clear 85 = .ok (.return_, 1) := by decide +kernel
theorem dX3_gossipTenths_0 : decode cX3_gossipTenths 0 = .ok (.aload_n 0, 1) := by decide +kernel
theorem dX3_gossipTenths_1 : decode cX3_gossipTenths 1 = .ok (.getfield 58, 3) := by decide +kernel
theorem dX3_gossipTenths_4 : decode cX3_gossipTenths 4 = .ok (.ifCond .ne 8, 3) := by decide +kernel
theorem dX3_gossipTenths_7 : decode cX3_gossipTenths 7 = .ok (.bipush 10, 2) := by decide +kernel
theorem dX3_gossipTenths_9 : decode cX3_gossipTenths 9 = .ok (.goto 7, 3) := by decide +kernel
theorem dX3_gossipTenths_12 : decode cX3_gossipTenths 12 = .ok (.aload_n 0, 1) := by decide +kernel
theorem dX3_gossipTenths_13 : decode cX3_gossipTenths 13 = .ok (.getfield 58, 3) := by decide +kernel
theorem dX3_gossipTenths_16 : decode cX3_gossipTenths 16 = .ok (.ireturn, 1) := by decide +kernel
theorem dX3_isJoined_0 : decode cX3_isJoined 0 = .ok (.aload_n 0, 1) := by decide +kernel
theorem dX3_isJoined_1 : decode cX3_isJoined 1 = .ok (.getfield 11, 3) := by decide +kernel
theorem dX3_isJoined_4 : decode cX3_isJoined 4 = .ok (.iload_n 1, 1) := by decide +kernel
theorem dX3_isJoined_5 : decode cX3_isJoined 5 = .ok (.aaload, 1) := by decide +kernel
theorem dX3_isJoined_6 : decode cX3_isJoined 6 = .ok (.iload_n 2, 1) := by decide +kernel
theorem dX3_isJoined_7 : decode cX3_isJoined 7 = .ok (.iaload, 1) := by decide +kernel
theorem dX3_isJoined_8 : decode cX3_isJoined 8 = .ok (.ifCond .le 7, 3) := by decide +kernel
theorem dX3_isJoined_11 : decode cX3_isJoined 11 = .ok (.iconst 1, 1) := by decide +kernel
theorem dX3_isJoined_12 : decode cX3_isJoined 12 = .ok (.goto 4, 3) := by decide +kernel
theorem dX3_isJoined_15 : decode cX3_isJoined 15 = .ok (.iconst 0, 1) := by decide +kernel
theorem dX3_isJoined_16 : decode cX3_isJoined 16 = .ok (.ireturn, 1) := by decide +kernel
theorem dX3_shortenWaysBy_0 : decode cX3_shortenWaysBy 0 = .ok (.aload_n 0, 1) := by decide +kernel
theorem dX3_shortenWaysBy_1 : decode cX3_shortenWaysBy 1 = .ok (.getfield 16, 3) := by decide +kernel
theorem dX3_shortenWaysBy_4 : decode cX3_shortenWaysBy 4 = .ok (.iload_n 2, 1) := by decide +kernel
theorem dX3_shortenWaysBy_5 : decode cX3_shortenWaysBy 5 = .ok (.aaload, 1) := by decide +kernel
theorem dX3_shortenWaysBy_6 : decode cX3_shortenWaysBy 6 = .ok (.iload_n 1, 1) := by decide +kernel
theorem dX3_shortenWaysBy_7 : decode cX3_shortenWaysBy 7 = .ok (.iaload, 1) := by decide +kernel
theorem dX3_shortenWaysBy_8 : decode cX3_shortenWaysBy 8 = .ok (.istore_n 3, 1) := by decide +kernel
theorem dX3_shortenWaysBy_9 : decode cX3_shortenWaysBy 9 = .ok (.iconst 0, 1) := by decide +kernel
theorem dX3_shortenWaysBy_10 : decode cX3_shortenWaysBy 10 = .ok (.istore 4, 2) := by decide +kernel
theorem dX3_shortenWaysBy_12 : decode cX3_shortenWaysBy 12 = .ok (.iload 4, 2) := by decide +kernel
theorem dX3_shortenWaysBy_14 : decode cX3_shortenWaysBy 14 = .ok (.aload_n 0, 1) := by decide +kernel
theorem dX3_shortenWaysBy_15 : decode cX3_shortenWaysBy 15 = .ok (.getfield 48, 3) := by decide +kernel
theorem dX3_shortenWaysBy_18 : decode cX3_shortenWaysBy 18 = .ok (.if_icmp .ge 73, 3) := by decide +kernel
theorem dX3_shortenWaysBy_21 : decode cX3_shortenWaysBy 21 = .ok (.iload_n 3, 1) := by decide +kernel
theorem dX3_shortenWaysBy_22 : decode cX3_shortenWaysBy 22 = .ok (.iconst (-1), 1) := by decide +kernel
theorem dX3_shortenWaysBy_23 : decode cX3_shortenWaysBy 23 = .ok (.if_icmp .eq 68, 3) := by decide +kernel
theorem dX3_shortenWaysBy_26 : decode cX3_shortenWaysBy 26 = .ok (.aload_n 0, 1) := by decide +kernel
theorem dX3_shortenWaysBy_27 : decode cX3_shortenWaysBy 27 = .ok (.getfield 16, 3) := by decide +kernel
theorem dX3_shortenWaysBy_30 : decode cX3_shortenWaysBy 30 = .ok (.iload_n 1, 1) := by decide +kernel
theorem dX3_shortenWaysBy_31 : decode cX3_shortenWaysBy 31 = .ok (.aaload, 1) := by decide +kernel
theorem dX3_shortenWaysBy_32 : decode cX3_shortenWaysBy 32 = .ok (.iload 4, 2) := by decide +kernel
theorem dX3_shortenWaysBy_34 : decode cX3_shortenWaysBy 34 = .ok (.iaload, 1) := by decide +kernel
theorem dX3_shortenWaysBy_35 : decode cX3_shortenWaysBy 35 = .ok (.istore 5, 2) := by decide +kernel
theorem dX3_shortenWaysBy_37 : decode cX3_shortenWaysBy 37 = .ok (.iload 5, 2) := by decide +kernel
theorem dX3_shortenWaysBy_39 : decode cX3_shortenWaysBy 39 = .ok (.iconst (-1), 1) := by decide +kernel
theorem dX3_shortenWaysBy_40 : decode cX3_shortenWaysBy 40 = .ok (.if_icmp .eq 45, 3) := by decide +kernel
theorem dX3_shortenWaysBy_43 : decode cX3_shortenWaysBy 43 = .ok (.aload_n 0, 1) := by decide +kernel
theorem dX3_shortenWaysBy_44 : decode cX3_shortenWaysBy 44 = .ok (.getfield 16, 3) := by decide +kernel
theorem dX3_shortenWaysBy_47 : decode cX3_shortenWaysBy 47 = .ok (.iload_n 2, 1) := by decide +kernel
theorem dX3_shortenWaysBy_48 : decode cX3_shortenWaysBy 48 = .ok (.aaload, 1) := by decide +kernel
theorem dX3_shortenWaysBy_49 : decode cX3_shortenWaysBy 49 = .ok (.iload 4, 2) := by decide +kernel
theorem dX3_shortenWaysBy_51 : decode cX3_shortenWaysBy 51 = .ok (.iaload, 1) := by decide +kernel
theorem dX3_shortenWaysBy_52 : decode cX3_shortenWaysBy 52 = .ok (.iconst (-1), 1) := by decide +kernel
theorem dX3_shortenWaysBy_53 : decode cX3_shortenWaysBy 53 = .ok (.if_icmp .eq 19, 3) := by decide +kernel
theorem dX3_shortenWaysBy_56 : decode cX3_shortenWaysBy 56 = .ok (.iload_n 3, 1) := by decide +kernel
theorem dX3_shortenWaysBy_57 : decode cX3_shortenWaysBy 57 = .ok (.iload 5, 2) := by decide +kernel
theorem dX3_shortenWaysBy_59 : decode cX3_shortenWaysBy 59 = .ok (.iadd, 1) := by decide +kernel
theorem dX3_shortenWaysBy_60 : decode cX3_shortenWaysBy 60 = .ok (.aload_n 0, 1) := by decide +kernel
theorem dX3_shortenWaysBy_61 : decode cX3_shortenWaysBy 61 = .ok (.getfield 16, 3) := by decide +kernel
theorem dX3_shortenWaysBy_64 : decode cX3_shortenWaysBy 64 = .ok (.iload_n 2, 1) := by decide +kernel
theorem dX3_shortenWaysBy_65 : decode cX3_shortenWaysBy 65 = .ok (.aaload, 1) := by decide +kernel
theorem dX3_shortenWaysBy_66 : decode cX3_shortenWaysBy 66 = .ok (.iload 4, 2) := by decide +kernel
theorem dX3_shortenWaysBy_68 : decode cX3_shortenWaysBy 68 = .ok (.iaload, 1) := by decide +kernel
theorem dX3_shortenWaysBy_69 : decode cX3_shortenWaysBy 69 = .ok (.if_icmp .ge 16, 3) := by decide +kernel
theorem dX3_shortenWaysBy_72 : decode cX3_shortenWaysBy 72 = .ok (.aload_n 0, 1) := by decide +kernel
theorem dX3_shortenWaysBy_73 : decode cX3_shortenWaysBy 73 = .ok (.getfield 16, 3) := by decide +kernel
theorem dX3_shortenWaysBy_76 : decode cX3_shortenWaysBy 76 = .ok (.iload_n 2, 1) := by decide +kernel
theorem dX3_shortenWaysBy_77 : decode cX3_shortenWaysBy 77 = .ok (.aaload, 1) := by decide +kernel
theorem dX3_shortenWaysBy_78 : decode cX3_shortenWaysBy 78 = .ok (.iload 4, 2) := by decide +kernel
theorem dX3_shortenWaysBy_80 : decode cX3_shortenWaysBy 80 = .ok (.iload_n 3, 1) := by decide +kernel
theorem dX3_shortenWaysBy_81 : decode cX3_shortenWaysBy 81 = .ok (.iload 5, 2) := by decide +kernel
theorem dX3_shortenWaysBy_83 : decode cX3_shortenWaysBy 83 = .ok (.iadd, 1) := by decide +kernel
theorem dX3_shortenWaysBy_84 : decode cX3_shortenWaysBy 84 = .ok (.iastore, 1) := by decide +kernel
theorem dX3_shortenWaysBy_85 : decode cX3_shortenWaysBy 85 = .ok (.iinc 4 1, 3) := by decide +kernel
theorem dX3_shortenWaysBy_88 : decode cX3_shortenWaysBy 88 = .ok (.goto (-76), 3) := by decide +kernel
theorem dX3_shortenWaysBy_91 : decode cX3_shortenWaysBy 91 = .ok (.return_, 1) := by decide +kernel
def f_X1_firstNews_76  (I : Mem) (P : PMem) (z0 : Nat) : Nat → Int32 → Int32 → Int32 → Nat → Int32 → Option (Int32)
  | 0, _, _, _, _, _ => none
  | fu + 1, v1, v2, v3, z4, v5 =>
    if (I 6 z4 0 3) ≤ v5 then (some v3) else (gd (inb v5 (rowsLen z4)) <|
    if (I 44 z4 0 v5.toNatClampNeg) = v1 then ((f_X1_arrival I P z0 (I 45 z4 0 v5.toNatClampNeg) (I 46 z4 0 v5.toNatClampNeg) v2).bind fun y1 =>
    (f_X1_earlier I v3 y1).bind fun y2 =>
    (f_X1_firstNews_76 I P z0 fu) v1 v2 y2 z4 (v5 + (1 : Int32))) else ((f_X1_firstNews_76 I P z0 fu) v1 v2 v3 z4 (v5 + (1 : Int32))))
theorem b_X1_firstNews_76 (X : CX) (Q : State → Prop) {I : Mem} {P : PMem} {O : Nat → Int64} {D : Bool} {n : Nat} {z0 : Nat} {r : (Int32)}  (hz0 : z0 < 2) : ∀ (fu : Nat) {v1 : Int32} {v2 : Int32} {v3 : Int32} {z4 : Nat} {v5 : Int32} (hz4 : z4 < 10), f_X1_firstNews_76 I P z0 fu v1 v2 v3 z4 v5 = some r → EndR X cX1_firstNews RX1 6 (some .int) 3 n (some (.inl r)) I P O D Q → Here X cX1_firstNews RX1 6 (some .int) 3 n 76 [some (.inr (.inr (1, z0, 0))), some (.inl v1), some (.inl v2), some (.inl v3), some (.inr (.inr (6, z4, 0))), some (.inl v5)] [] I P O D n Q := by
  intro fu
  induction fu with
  | zero => intro v1 v2 v3 z4 v5 hz4 h E; cases h
  | succ fu ih =>
  intro v1 v2 v3 z4 v5 hz4 h E
  have H76 : ∀ (v1 : Int32) (v2 : Int32) (v3 : Int32) (z4 : Nat) (v5 : Int32), z4 < 10 → f_X1_firstNews_76 I P z0 fu v1 v2 v3 z4 v5 = some r → Here X cX1_firstNews RX1 6 (some .int) 3 n 76 [some (.inr (.inr (1, z0, 0))), some (.inl v1), some (.inl v2), some (.inl v3), some (.inr (.inr (6, z4, 0))), some (.inl v5)] [] I P O D n Q := fun _ _ _ _ _ a0 b => ih a0 b E
  simp only [f_X1_firstNews_76] at h
  refine h_iload dX1_firstNews_76 rfl ?_
  refine h_aload dX1_firstNews_78 rfl ?_
  refine g_X1_144 (by omega) dX1_firstNews_80 ?_
  refine h_icmp_ge (tgt := 130) dX1_firstNews_83 (by decide) (fun q1 => ?_) (fun q1 => ?_)
  · rw [if_pos q1] at h
    refine h_iload_n dX1_firstNews_130 rfl ?_
    cases h
    exact h_iret dX1_firstNews_131 rfl E
  · rw [if_neg q1] at h
    refine h_aload dX1_firstNews_86 rfl ?_
    refine g_X1_149 (by omega) dX1_firstNews_88 ?_
    refine h_iload dX1_firstNews_91 rfl ?_
    obtain ⟨g1, h⟩ := gd_some h
    refine al_44 (by omega) v5.toNatClampNeg rfl dX1_firstNews_93 g1 ?_
    refine h_iload_n dX1_firstNews_94 rfl ?_
    refine h_icmp_ne (tgt := 124) dX1_firstNews_95 (by decide) (fun q2 => ?_) (fun q2 => ?_)
    · rw [if_neg q2] at h
      refine h_iinc (1 : Int32) dX1_firstNews_124 rfl k_iinc_1 (by decide) rfl ?_
      refine h_goto (tgt := 76) dX1_firstNews_127 (by decide) ?_
      exact (H76 _ _ _ _ _ (by omega) h)
    · rw [if_pos q2] at h
      refine h_iload_n dX1_firstNews_98 rfl ?_
      refine h_aload_n dX1_firstNews_99 rfl ?_
      refine h_aload dX1_firstNews_100 rfl ?_
      refine g_X1_152 (by omega) dX1_firstNews_102 ?_
      refine h_iload dX1_firstNews_105 rfl ?_
      refine al_45 (by omega) v5.toNatClampNeg rfl dX1_firstNews_107 g1 ?_
      refine h_aload dX1_firstNews_108 rfl ?_
      refine g_X1_155 (by omega) dX1_firstNews_110 ?_
      refine h_iload dX1_firstNews_113 rfl ?_
      refine al_46 (by omega) v5.toNatClampNeg rfl dX1_firstNews_115 g1 ?_
      refine h_iload_n dX1_firstNews_116 rfl ?_
      obtain ⟨y1, hh1, h⟩ := obd_some h
      refine h_cVi [.inl (I 45 z4 0 v5.toNatClampNeg), .inl (I 46 z4 0 v5.toNatClampNeg), .inl v2] (m_X1_arrival (by omega) hh1) cw_X1_172 dX1_firstNews_117 rfl (ok_1 (by omega)) (by decide) rfl (Or.inr rfl) rfl ?_
      obtain ⟨y2, hh2, h⟩ := obd_some h
      refine h_cSi [.inl v3, .inl y1] (m_X1_earlier  hh2) cs_X1_175 dX1_firstNews_120 rfl (by decide) rfl (Or.inr rfl) rfl ?_
      refine h_istore_n dX1_firstNews_123 (by decide) rfl ?_
      refine h_iinc (1 : Int32) dX1_firstNews_124 rfl k_iinc_1 (by decide) rfl ?_
      refine h_goto (tgt := 76) dX1_firstNews_127 (by decide) ?_
      exact (H76 _ _ _ _ _ (by omega) h)
def f_X1_firstNews_5  (I : Mem) (P : PMem) (z0 : Nat) : Nat → Int32 → Int32 → Int32 → Int32 → Option (Int32)
  | 0, _, _, _, _ => none
  | fu + 1, v1, v2, v3, v4 =>
    gd (decide ((P 1 z0 0 0) < 2)) <|
    if (I 3 (P 1 z0 0 0) 0 7) ≤ v4 then (gd (decide ((P 1 z0 0 1) < 2)) <|
    f_X1_firstNews_76 I P z0 FU v1 v2 v3 (5 * (P 1 z0 0 1) + 0) (0 : Int32)) else (gd (inb v1 6) <|
    gd (inb v4 5) <|
    if (I 16 z0 v1.toNatClampNeg v4.toNatClampNeg) = (-1 : Int32) then ((f_X1_firstNews_5 I P z0 fu) v1 v2 v3 (v4 + (1 : Int32))) else ((f_X1_arrival I P z0 (I 18 z0 v1.toNatClampNeg v4.toNatClampNeg) (I 16 z0 v1.toNatClampNeg v4.toNatClampNeg) v2).bind fun y1 =>
    (f_X1_earlier I v3 y1).bind fun y2 =>
    (f_X1_firstNews_5 I P z0 fu) v1 v2 y2 (v4 + (1 : Int32))))
theorem b_X1_firstNews_5 (X : CX) (Q : State → Prop) {I : Mem} {P : PMem} {O : Nat → Int64} {D : Bool} {n : Nat} {z0 : Nat} {r : (Int32)}  (hz0 : z0 < 2) : ∀ (fu : Nat) {v1 : Int32} {v2 : Int32} {v3 : Int32} {v4 : Int32}, f_X1_firstNews_5 I P z0 fu v1 v2 v3 v4 = some r → EndR X cX1_firstNews RX1 6 (some .int) 3 n (some (.inl r)) I P O D Q → Here X cX1_firstNews RX1 6 (some .int) 3 n 5 [some (.inr (.inr (1, z0, 0))), some (.inl v1), some (.inl v2), some (.inl v3), some (.inl v4), none] [] I P O D n Q := by
  intro fu
  induction fu with
  | zero => intro v1 v2 v3 v4 h E; cases h
  | succ fu ih =>
  intro v1 v2 v3 v4 h E
  have H5 : ∀ (v1 : Int32) (v2 : Int32) (v3 : Int32) (v4 : Int32), f_X1_firstNews_5 I P z0 fu v1 v2 v3 v4 = some r → Here X cX1_firstNews RX1 6 (some .int) 3 n 5 [some (.inr (.inr (1, z0, 0))), some (.inl v1), some (.inl v2), some (.inl v3), some (.inl v4), none] [] I P O D n Q := fun _ _ _ _ b => ih b E
  simp only [f_X1_firstNews_5] at h
  refine h_iload dX1_firstNews_5 rfl ?_
  refine h_aload_n dX1_firstNews_7 rfl ?_
  refine g_X1_44 (by omega) dX1_firstNews_8 ?_
  obtain ⟨g1, h⟩ := gd_some h
  have w1 := of_decide_eq_true g1
  refine g_X1_56 (by omega) dX1_firstNews_11 ?_
  refine h_icmp_ge (tgt := 64) dX1_firstNews_14 (by decide) (fun q1 => ?_) (fun q1 => ?_)
  · rw [if_pos q1] at h
    refine h_aload_n dX1_firstNews_64 rfl ?_
    refine g_X1_48 (by omega) dX1_firstNews_65 ?_
    obtain ⟨g2, h⟩ := gd_some h
    have w2 := of_decide_eq_true g2
    refine g_X1_162 (by omega) dX1_firstNews_68 ?_
    refine h_astore dX1_firstNews_71 (by decide) rfl ?_
    refine h_iconst (0 : Int32) dX1_firstNews_73 k_iconst_0 ?_
    refine h_istore dX1_firstNews_74 (by decide) rfl ?_
    exact (b_X1_firstNews_76 X Q hz0 FU (by omega) h E)
  · rw [if_neg q1] at h
    refine h_aload_n dX1_firstNews_17 rfl ?_
    refine g_X1_19 (by omega) dX1_firstNews_18 ?_
    refine h_iload_n dX1_firstNews_21 rfl ?_
    obtain ⟨g3, h⟩ := gd_some h
    refine ag_15 (by omega) v1.toNatClampNeg rfl dX1_firstNews_22 g3 ?_
    have w3 := inb_lt g3
    refine h_iload dX1_firstNews_23 rfl ?_
    obtain ⟨g4, h⟩ := gd_some h
    refine al_16 (by omega) (by omega) v4.toNatClampNeg rfl dX1_firstNews_25 g4 ?_
    refine h_iconst (-1 : Int32) dX1_firstNews_26 k_iconst_m1 ?_
    refine h_icmp_eq (tgt := 58) dX1_firstNews_27 (by decide) (fun q2 => ?_) (fun q2 => ?_)
    · rw [if_pos q2] at h
      refine h_iinc (1 : Int32) dX1_firstNews_58 rfl k_iinc_1 (by decide) rfl ?_
      refine h_goto (tgt := 5) dX1_firstNews_61 (by decide) ?_
      exact (H5 _ _ _ _ h)
    · rw [if_neg q2] at h
      refine h_iload_n dX1_firstNews_30 rfl ?_
      refine h_aload_n dX1_firstNews_31 rfl ?_
      refine h_aload_n dX1_firstNews_32 rfl ?_
      refine g_X1_22 (by omega) dX1_firstNews_33 ?_
      refine h_iload_n dX1_firstNews_36 rfl ?_
      refine ag_17 (by omega) v1.toNatClampNeg rfl dX1_firstNews_37 g3 ?_
      refine h_iload dX1_firstNews_38 rfl ?_
      refine al_18 (by omega) (by omega) v4.toNatClampNeg rfl dX1_firstNews_40 g4 ?_
      refine h_aload_n dX1_firstNews_41 rfl ?_
      refine g_X1_19 (by omega) dX1_firstNews_42 ?_
      refine h_iload_n dX1_firstNews_45 rfl ?_
      refine ag_15 (by omega) v1.toNatClampNeg rfl dX1_firstNews_46 g3 ?_
      refine h_iload dX1_firstNews_47 rfl ?_
      refine al_16 (by omega) (by omega) v4.toNatClampNeg rfl dX1_firstNews_49 g4 ?_
      refine h_iload_n dX1_firstNews_50 rfl ?_
      obtain ⟨y1, hh1, h⟩ := obd_some h
      refine h_cVi [.inl (I 18 z0 v1.toNatClampNeg v4.toNatClampNeg), .inl (I 16 z0 v1.toNatClampNeg v4.toNatClampNeg), .inl v2] (m_X1_arrival (by omega) hh1) cw_X1_172 dX1_firstNews_51 rfl (ok_1 (by omega)) (by decide) rfl (Or.inr rfl) rfl ?_
      obtain ⟨y2, hh2, h⟩ := obd_some h
      refine h_cSi [.inl v3, .inl y1] (m_X1_earlier  hh2) cs_X1_175 dX1_firstNews_54 rfl (by decide) rfl (Or.inr rfl) rfl ?_
      refine h_istore_n dX1_firstNews_57 (by decide) rfl ?_
      refine h_iinc (1 : Int32) dX1_firstNews_58 rfl k_iinc_1 (by decide) rfl ?_
      refine h_goto (tgt := 5) dX1_firstNews_61 (by decide) ?_
      exact (H5 _ _ _ _ h)
def f_X1_firstNews  (I : Mem) (P : PMem) (z0 : Nat) (v1 : Int32) (v2 : Int32) : Option (Int32) :=
  f_X1_firstNews_5 I P z0 FU v1 v2 (-1 : Int32) (0 : Int32)
theorem b_X1_firstNews (X : CX) (Q : State → Prop) {I : Mem} {P : PMem} {O : Nat → Int64} {D : Bool} {n : Nat} {z0 : Nat} {v1 : Int32} {v2 : Int32} {r : (Int32)}  (hz0 : z0 < 2) (h : f_X1_firstNews I P z0 v1 v2 = some r) (E : EndR X cX1_firstNews RX1 6 (some .int) 3 n (some (.inl r)) I P O D Q) : Here X cX1_firstNews RX1 6 (some .int) 3 n 0 [some (.inr (.inr (1, z0, 0))), some (.inl v1), some (.inl v2), none, none, none] [] I P O D n Q := by
  unfold f_X1_firstNews at h
  refine h_iconst (-1 : Int32) dX1_firstNews_0 k_iconst_m1 ?_
  refine h_istore_n dX1_firstNews_1 (by decide) rfl ?_
  refine h_iconst (0 : Int32) dX1_firstNews_2 k_iconst_0 ?_
  refine h_istore dX1_firstNews_3 (by decide) rfl ?_
  exact (b_X1_firstNews_5 X Q hz0 FU  h E)
theorem m_X1_firstNews {I : Mem} {P : PMem} {O : Nat → Int64} {D : Bool} {n : Nat} {z0 : Nat} {v1 : Int32} {v2 : Int32} {r : (Int32)} (hz0 : z0 < 2) (h : f_X1_firstNews I P z0 v1 v2 = some r) : MethR yX1_firstNews cX1_firstNews 6 (some .int) 3 [.inr (.inr (1, z0, 0)), .inl v1, .inl v2] I P O D n (some (.inl r)) I P O D n := meth_R (Nat.le_refl _) (by decide) rfl (Nat.le_of_ble_eq_true rfl) rfl (fun X Q E => b_X1_firstNews X Q hz0 h E)
def f_X1_voids  (I : Mem) (z0 : Nat) (v1 : Int32) : Option (Int32) :=
  gd (inb v1 6) <|
  some ((I 21 z0 0 v1.toNatClampNeg) &&& ((I 1 z0 0 2) ^^^ (-1 : Int32)))
theorem b_X1_voids (X : CX) (Q : State → Prop) {I : Mem} {P : PMem} {O : Nat → Int64} {D : Bool} {n : Nat} {z0 : Nat} {v1 : Int32} {r : (Int32)}  (hz0 : z0 < 2) (h : f_X1_voids I z0 v1 = some r) (E : EndR X cX1_voids RX1 2 (some .int) 2 n (some (.inl r)) I P O D Q) : Here X cX1_voids RX1 2 (some .int) 2 n 0 [some (.inr (.inr (1, z0, 0))), some (.inl v1)] [] I P O D n Q := by
  unfold f_X1_voids at h
  refine h_aload_n dX1_voids_0 rfl ?_
  refine g_X1_28 (by omega) dX1_voids_1 ?_
  refine h_iload_n dX1_voids_4 rfl ?_
  obtain ⟨g1, h⟩ := gd_some h
  refine al_21 (by omega) v1.toNatClampNeg rfl dX1_voids_5 g1 ?_
  refine h_aload_n dX1_voids_6 rfl ?_
  refine g_X1_52 (by omega) dX1_voids_7 ?_
  refine h_iconst (-1 : Int32) dX1_voids_10 k_iconst_m1 ?_
  refine h_ixor dX1_voids_11 ?_
  refine h_iand dX1_voids_12 ?_
  cases h
  exact h_iret dX1_voids_13 rfl E
theorem m_X1_voids {I : Mem} {P : PMem} {O : Nat → Int64} {D : Bool} {n : Nat} {z0 : Nat} {v1 : Int32} {r : (Int32)} (hz0 : z0 < 2) (h : f_X1_voids I z0 v1 = some r) : MethR yX1_voids cX1_voids 2 (some .int) 2 [.inr (.inr (1, z0, 0)), .inl v1] I P O D n (some (.inl r)) I P O D n := meth_R (Nat.le_refl _) (by decide) rfl (Nat.le_of_ble_eq_true rfl) rfl (fun X Q E => b_X1_voids X Q hz0 h E)
def f_X1_trioDay_4  (I : Mem) (P : PMem) (z0 : Nat) : Nat → Int32 → Int32 → Int32 → Option (Int32)
  | 0, _, _, _ => none
  | fu + 1, v1, v2, v3 =>
    gd (decide ((P 1 z0 0 0) < 2)) <|
    if (I 3 (P 1 z0 0 0) 0 7) ≤ v3 then (some v2) else (gd (inb v1 6) <|
    if ((jushr (I 24 z0 0 v1.toNatClampNeg) v3) &&& (1 : Int32)) = (1 : Int32) then (gd (inb v3 5) <|
    bnd (jmax v2 (I 16 z0 v1.toNatClampNeg v3.toNatClampNeg)) fun x1 =>
    (f_X1_trioDay_4 I P z0 fu) v1 x1 (v3 + (1 : Int32))) else ((f_X1_trioDay_4 I P z0 fu) v1 v2 (v3 + (1 : Int32))))
theorem b_X1_trioDay_4 (X : CX) (Q : State → Prop) {I : Mem} {P : PMem} {O : Nat → Int64} {D : Bool} {n : Nat} {z0 : Nat} {r : (Int32)}  (hz0 : z0 < 2) : ∀ (fu : Nat) {v1 : Int32} {v2 : Int32} {v3 : Int32}, f_X1_trioDay_4 I P z0 fu v1 v2 v3 = some r → EndR X cX1_trioDay RX1 4 (some .int) 2 n (some (.inl r)) I P O D Q → Here X cX1_trioDay RX1 4 (some .int) 2 n 4 [some (.inr (.inr (1, z0, 0))), some (.inl v1), some (.inl v2), some (.inl v3)] [] I P O D n Q := by
  intro fu
  induction fu with
  | zero => intro v1 v2 v3 h E; cases h
  | succ fu ih =>
  intro v1 v2 v3 h E
  have H4 : ∀ (v1 : Int32) (v2 : Int32) (v3 : Int32), f_X1_trioDay_4 I P z0 fu v1 v2 v3 = some r → Here X cX1_trioDay RX1 4 (some .int) 2 n 4 [some (.inr (.inr (1, z0, 0))), some (.inl v1), some (.inl v2), some (.inl v3)] [] I P O D n Q := fun _ _ _ b => ih b E
  simp only [f_X1_trioDay_4] at h
  refine h_iload_n dX1_trioDay_4 rfl ?_
  refine h_aload_n dX1_trioDay_5 rfl ?_
  refine g_X1_44 (by omega) dX1_trioDay_6 ?_
  obtain ⟨g1, h⟩ := gd_some h
  have w1 := of_decide_eq_true g1
  refine g_X1_56 (by omega) dX1_trioDay_9 ?_
  refine h_icmp_ge (tgt := 48) dX1_trioDay_12 (by decide) (fun q1 => ?_) (fun q1 => ?_)
  · rw [if_pos q1] at h
    refine h_iload_n dX1_trioDay_48 rfl ?_
    cases h
    exact h_iret dX1_trioDay_49 rfl E
  · rw [if_neg q1] at h
    refine h_aload_n dX1_trioDay_15 rfl ?_
    refine g_X1_35 (by omega) dX1_trioDay_16 ?_
    refine h_iload_n dX1_trioDay_19 rfl ?_
    obtain ⟨g2, h⟩ := gd_some h
    refine al_24 (by omega) v1.toNatClampNeg rfl dX1_trioDay_20 g2 ?_
    refine h_iload_n dX1_trioDay_21 rfl ?_
    refine h_ushr dX1_trioDay_22 ?_
    refine h_iconst (1 : Int32) dX1_trioDay_23 k_iconst_1 ?_
    refine h_iand dX1_trioDay_24 ?_
    refine h_iconst (1 : Int32) dX1_trioDay_25 k_iconst_1 ?_
    refine h_icmp_ne (tgt := 42) dX1_trioDay_26 (by decide) (fun q2 => ?_) (fun q2 => ?_)
    · rw [if_neg q2] at h
      refine h_iinc (1 : Int32) dX1_trioDay_42 rfl k_iinc_1 (by decide) rfl ?_
      refine h_goto (tgt := 4) dX1_trioDay_45 (by decide) ?_
      exact (H4 _ _ _ h)
    · rw [if_pos q2] at h
      refine h_iload_n dX1_trioDay_29 rfl ?_
      refine h_aload_n dX1_trioDay_30 rfl ?_
      refine g_X1_19 (by omega) dX1_trioDay_31 ?_
      refine h_iload_n dX1_trioDay_34 rfl ?_
      refine ag_15 (by omega) v1.toNatClampNeg rfl dX1_trioDay_35 g2 ?_
      have w2 := inb_lt g2
      refine h_iload_n dX1_trioDay_36 rfl ?_
      obtain ⟨g3, h⟩ := gd_some h
      refine al_16 (by omega) (by omega) v3.toNatClampNeg rfl dX1_trioDay_37 g3 ?_
      refine h_max dX1_trioDay_38 ml_X1_178 wm1_max wm2 wm3_max (by decide) rfl ?_
      obtain ⟨x1, e1, h⟩ := bnd_some h
      refine h_nmv e1 ?_
      refine h_istore_n dX1_trioDay_41 (by decide) rfl ?_
      refine h_iinc (1 : Int32) dX1_trioDay_42 rfl k_iinc_1 (by decide) rfl ?_
      refine h_goto (tgt := 4) dX1_trioDay_45 (by decide) ?_
      exact (H4 _ _ _ h)
def f_X1_trioDay  (I : Mem) (P : PMem) (z0 : Nat) (v1 : Int32) : Option (Int32) :=
  f_X1_trioDay_4 I P z0 FU v1 (-1 : Int32) (0 : Int32)
theorem b_X1_trioDay (X : CX) (Q : State → Prop) {I : Mem} {P : PMem} {O : Nat → Int64} {D : Bool} {n : Nat} {z0 : Nat} {v1 : Int32} {r : (Int32)}  (hz0 : z0 < 2) (h : f_X1_trioDay I P z0 v1 = some r) (E : EndR X cX1_trioDay RX1 4 (some .int) 2 n (some (.inl r)) I P O D Q) : Here X cX1_trioDay RX1 4 (some .int) 2 n 0 [some (.inr (.inr (1, z0, 0))), some (.inl v1), none, none] [] I P O D n Q := by
  unfold f_X1_trioDay at h
  refine h_iconst (-1 : Int32) dX1_trioDay_0 k_iconst_m1 ?_
  refine h_istore_n dX1_trioDay_1 (by decide) rfl ?_
  refine h_iconst (0 : Int32) dX1_trioDay_2 k_iconst_0 ?_
  refine h_istore_n dX1_trioDay_3 (by decide) rfl ?_
  exact (b_X1_trioDay_4 X Q hz0 FU  h E)
theorem m_X1_trioDay {I : Mem} {P : PMem} {O : Nat → Int64} {D : Bool} {n : Nat} {z0 : Nat} {v1 : Int32} {r : (Int32)} (hz0 : z0 < 2) (h : f_X1_trioDay I P z0 v1 = some r) : MethR yX1_trioDay cX1_trioDay 4 (some .int) 2 [.inr (.inr (1, z0, 0)), .inl v1] I P O D n (some (.inl r)) I P O D n := meth_R (Nat.le_refl _) (by decide) rfl (Nat.le_of_ble_eq_true rfl) rfl (fun X Q E => b_X1_trioDay X Q hz0 h E)
def f_X1_howManyGuilty_4  (I : Mem) (P : PMem) (z0 : Nat) : Nat → Int32 → Int32 → Option (Int32)
  | 0, _, _ => none
  | fu + 1, v1, v2 =>
    gd (decide ((P 1 z0 0 0) < 2)) <|
    if (I 3 (P 1 z0 0 0) 0 13) ≤ v2 then (some v1) else (gd (inb v2 6) <|
    if (I 24 z0 0 v2.toNatClampNeg) = 0 then ((f_X1_howManyGuilty_4 I P z0 fu) v1 (v2 + (1 : Int32))) else ((f_X1_howManyGuilty_4 I P z0 fu) (v1 + (1 : Int32)) (v2 + (1 : Int32))))
theorem b_X1_howManyGuilty_4 (X : CX) (Q : State → Prop) {I : Mem} {P : PMem} {O : Nat → Int64} {D : Bool} {n : Nat} {z0 : Nat} {r : (Int32)}  (hz0 : z0 < 2) : ∀ (fu : Nat) {v1 : Int32} {v2 : Int32}, f_X1_howManyGuilty_4 I P z0 fu v1 v2 = some r → EndR X cX1_howManyGuilty RX1 3 (some .int) 2 n (some (.inl r)) I P O D Q → Here X cX1_howManyGuilty RX1 3 (some .int) 2 n 4 [some (.inr (.inr (1, z0, 0))), some (.inl v1), some (.inl v2)] [] I P O D n Q := by
  intro fu
  induction fu with
  | zero => intro v1 v2 h E; cases h
  | succ fu ih =>
  intro v1 v2 h E
  have H4 : ∀ (v1 : Int32) (v2 : Int32), f_X1_howManyGuilty_4 I P z0 fu v1 v2 = some r → Here X cX1_howManyGuilty RX1 3 (some .int) 2 n 4 [some (.inr (.inr (1, z0, 0))), some (.inl v1), some (.inl v2)] [] I P O D n Q := fun _ _ b => ih b E
  simp only [f_X1_howManyGuilty_4] at h
  refine h_iload_n dX1_howManyGuilty_4 rfl ?_
  refine h_aload_n dX1_howManyGuilty_5 rfl ?_
  refine g_X1_44 (by omega) dX1_howManyGuilty_6 ?_
  obtain ⟨g1, h⟩ := gd_some h
  have w1 := of_decide_eq_true g1
  refine g_X1_95 (by omega) dX1_howManyGuilty_9 ?_
  refine h_icmp_ge (tgt := 33) dX1_howManyGuilty_12 (by decide) (fun q1 => ?_) (fun q1 => ?_)
  · rw [if_pos q1] at h
    refine h_iload_n dX1_howManyGuilty_33 rfl ?_
    cases h
    exact h_iret dX1_howManyGuilty_34 rfl E
  · rw [if_neg q1] at h
    refine h_aload_n dX1_howManyGuilty_15 rfl ?_
    refine g_X1_35 (by omega) dX1_howManyGuilty_16 ?_
    refine h_iload_n dX1_howManyGuilty_19 rfl ?_
    obtain ⟨g2, h⟩ := gd_some h
    refine al_24 (by omega) v2.toNatClampNeg rfl dX1_howManyGuilty_20 g2 ?_
    refine h_if_eq (tgt := 27) dX1_howManyGuilty_21 (by decide) (fun q2 => ?_) (fun q2 => ?_)
    · rw [if_pos q2] at h
      refine h_iinc (1 : Int32) dX1_howManyGuilty_27 rfl k_iinc_1 (by decide) rfl ?_
      refine h_goto (tgt := 4) dX1_howManyGuilty_30 (by decide) ?_
      exact (H4 _ _ h)
    · rw [if_neg q2] at h
      refine h_iinc (1 : Int32) dX1_howManyGuilty_24 rfl k_iinc_1 (by decide) rfl ?_
      refine h_iinc (1 : Int32) dX1_howManyGuilty_27 rfl k_iinc_1 (by decide) rfl ?_
      refine h_goto (tgt := 4) dX1_howManyGuilty_30 (by decide) ?_
      exact (H4 _ _ h)
def f_X1_howManyGuilty  (I : Mem) (P : PMem) (z0 : Nat)  : Option (Int32) :=
  f_X1_howManyGuilty_4 I P z0 FU (0 : Int32) (0 : Int32)
theorem b_X1_howManyGuilty (X : CX) (Q : State → Prop) {I : Mem} {P : PMem} {O : Nat → Int64} {D : Bool} {n : Nat} {z0 : Nat} {r : (Int32)}  (hz0 : z0 < 2) (h : f_X1_howManyGuilty I P z0 = some r) (E : EndR X cX1_howManyGuilty RX1 3 (some .int) 2 n (some (.inl r)) I P O D Q) : Here X cX1_howManyGuilty RX1 3 (some .int) 2 n 0 [some (.inr (.inr (1, z0, 0))), none, none] [] I P O D n Q := by
  unfold f_X1_howManyGuilty at h
  refine h_iconst (0 : Int32) dX1_howManyGuilty_0 k_iconst_0 ?_
  refine h_istore_n dX1_howManyGuilty_1 (by decide) rfl ?_
  refine h_iconst (0 : Int32) dX1_howManyGuilty_2 k_iconst_0 ?_
  refine h_istore_n dX1_howManyGuilty_3 (by decide) rfl ?_
  exact (b_X1_howManyGuilty_4 X Q hz0 FU  h E)
theorem m_X1_howManyGuilty {I : Mem} {P : PMem} {O : Nat → Int64} {D : Bool} {n : Nat} {z0 : Nat} {r : (Int32)} (hz0 : z0 < 2) (h : f_X1_howManyGuilty I P z0 = some r) : MethR yX1_howManyGuilty cX1_howManyGuilty 3 (some .int) 2 [.inr (.inr (1, z0, 0))] I P O D n (some (.inl r)) I P O D n := meth_R (Nat.le_refl _) (by decide) rfl (Nat.le_of_ble_eq_true rfl) rfl (fun X Q E => b_X1_howManyGuilty X Q hz0 h E)
def f_X1_isAllAsSeen_47 (k11 : Int32 → Int32 → Nat → Int32 → Option (Int32)) (I : Mem) (P : PMem) (z0 : Nat) (v1 : Int32) (v2 : Int32) (z3 : Nat) (v4 : Int32) (s0 : Int32) (s1 : Int32) : Option (Int32) :=
  bnd (s1 ||| s0) fun x1 =>
  gd (inb v4 (rowsLen z3)) <|
  if ((jushr (x1 &&& ((I 1 z0 0 2) ^^^ (-1 : Int32))) (I 45 z3 0 v4.toNatClampNeg)) &&& (1 : Int32)) = (I 46 z3 0 v4.toNatClampNeg) then (k11 v1 v2 z3 (v4 + (1 : Int32))) else (some (0 : Int32))
theorem b_X1_isAllAsSeen_47 (X : CX) (Q : State → Prop) {I : Mem} {P : PMem} {O : Nat → Int64} {D : Bool} {n : Nat} {k11 : Int32 → Int32 → Nat → Int32 → Option (Int32)} {z0 : Nat} {v1 : Int32} {v2 : Int32} {z3 : Nat} {v4 : Int32} {s0 : Int32} {s1 : Int32} {r : (Int32)}  (H11 : ∀ (v1 : Int32) (v2 : Int32) (z3 : Nat) (v4 : Int32), z3 < 10 → k11 v1 v2 z3 v4 = some r → Here X cX1_isAllAsSeen RX1 7 (some .boolean) 2 n 11 [some (.inr (.inr (1, z0, 0))), some (.inl v1), some (.inl v2), some (.inr (.inr (6, z3, 0))), some (.inl v4), none, none] [] I P O D n Q) (hz0 : z0 < 2) (hz3 : z3 < 10) (h : f_X1_isAllAsSeen_47 k11 I P z0 v1 v2 z3 v4 s0 s1 = some r) (E : EndR X cX1_isAllAsSeen RX1 7 (some .boolean) 2 n (some (.inl r)) I P O D Q) : Here X cX1_isAllAsSeen RX1 7 (some .boolean) 2 n 47 [some (.inr (.inr (1, z0, 0))), some (.inl v1), some (.inl v2), some (.inr (.inr (6, z3, 0))), some (.inl v4), none, none] [.inl s0, .inl s1] I P O D n Q := by
  unfold f_X1_isAllAsSeen_47 at h
  refine h_ior dX1_isAllAsSeen_47 ?_
  obtain ⟨x1, e1, h⟩ := bnd_some h
  refine h_nmv e1 ?_
  refine h_istore dX1_isAllAsSeen_48 (by decide) rfl ?_
  refine h_iload dX1_isAllAsSeen_50 rfl ?_
  refine h_aload_n dX1_isAllAsSeen_52 rfl ?_
  refine g_X1_52 (by omega) dX1_isAllAsSeen_53 ?_
  refine h_iconst (-1 : Int32) dX1_isAllAsSeen_56 k_iconst_m1 ?_
  refine h_ixor dX1_isAllAsSeen_57 ?_
  refine h_iand dX1_isAllAsSeen_58 ?_
  refine h_aload_n dX1_isAllAsSeen_59 rfl ?_
  refine g_X1_152 (by omega) dX1_isAllAsSeen_60 ?_
  refine h_iload dX1_isAllAsSeen_63 rfl ?_
  obtain ⟨g1, h⟩ := gd_some h
  refine al_45 (by omega) v4.toNatClampNeg rfl dX1_isAllAsSeen_65 g1 ?_
  refine h_ushr dX1_isAllAsSeen_66 ?_
  refine h_iconst (1 : Int32) dX1_isAllAsSeen_67 k_iconst_1 ?_
  refine h_iand dX1_isAllAsSeen_68 ?_
  refine h_aload_n dX1_isAllAsSeen_69 rfl ?_
  refine g_X1_155 (by omega) dX1_isAllAsSeen_70 ?_
  refine h_iload dX1_isAllAsSeen_73 rfl ?_
  refine al_46 (by omega) v4.toNatClampNeg rfl dX1_isAllAsSeen_75 g1 ?_
  refine h_icmp_eq (tgt := 81) dX1_isAllAsSeen_76 (by decide) (fun q1 => ?_) (fun q1 => ?_)
  · rw [if_pos q1] at h
    refine h_iinc (1 : Int32) dX1_isAllAsSeen_81 rfl k_iinc_1 (by decide) rfl ?_
    refine h_goto (tgt := 11) dX1_isAllAsSeen_84 (by decide) ?_
    exact h_mask [true, true, true, true, true, false, false] (H11 _ _ _ _ (by omega) h)
  · rw [if_neg q1] at h
    refine h_iconst (0 : Int32) dX1_isAllAsSeen_79 k_iconst_0 ?_
    cases h
    exact h_zret dX1_isAllAsSeen_80 rfl rfl E
def f_X1_isAllAsSeen_11  (I : Mem) (P : PMem) (z0 : Nat) : Nat → Int32 → Int32 → Nat → Int32 → Option (Int32)
  | 0, _, _, _, _ => none
  | fu + 1, v1, v2, z3, v4 =>
    if (I 6 z3 0 3) ≤ v4 then (some (1 : Int32)) else (gd (inb v4 (rowsLen z3)) <|
    bnd (I 44 z3 0 v4.toNatClampNeg) fun x1 =>
    gd (inb x1 6) <|
    if x1 = v1 then (f_X1_isAllAsSeen_47 (f_X1_isAllAsSeen_11 I P z0 fu) I P z0 v1 v2 z3 v4 v2 (I 21 z0 0 x1.toNatClampNeg)) else (f_X1_isAllAsSeen_47 (f_X1_isAllAsSeen_11 I P z0 fu) I P z0 v1 v2 z3 v4 (0 : Int32) (I 21 z0 0 x1.toNatClampNeg)))
theorem b_X1_isAllAsSeen_11 (X : CX) (Q : State → Prop) {I : Mem} {P : PMem} {O : Nat → Int64} {D : Bool} {n : Nat} {z0 : Nat} {r : (Int32)}  (hz0 : z0 < 2) : ∀ (fu : Nat) {v1 : Int32} {v2 : Int32} {z3 : Nat} {v4 : Int32} (hz3 : z3 < 10), f_X1_isAllAsSeen_11 I P z0 fu v1 v2 z3 v4 = some r → EndR X cX1_isAllAsSeen RX1 7 (some .boolean) 2 n (some (.inl r)) I P O D Q → Here X cX1_isAllAsSeen RX1 7 (some .boolean) 2 n 11 [some (.inr (.inr (1, z0, 0))), some (.inl v1), some (.inl v2), some (.inr (.inr (6, z3, 0))), some (.inl v4), none, none] [] I P O D n Q := by
  intro fu
  induction fu with
  | zero => intro v1 v2 z3 v4 hz3 h E; cases h
  | succ fu ih =>
  intro v1 v2 z3 v4 hz3 h E
  have H11 : ∀ (v1 : Int32) (v2 : Int32) (z3 : Nat) (v4 : Int32), z3 < 10 → f_X1_isAllAsSeen_11 I P z0 fu v1 v2 z3 v4 = some r → Here X cX1_isAllAsSeen RX1 7 (some .boolean) 2 n 11 [some (.inr (.inr (1, z0, 0))), some (.inl v1), some (.inl v2), some (.inr (.inr (6, z3, 0))), some (.inl v4), none, none] [] I P O D n Q := fun _ _ _ _ a0 b => ih a0 b E
  simp only [f_X1_isAllAsSeen_11] at h
  refine h_iload dX1_isAllAsSeen_11 rfl ?_
  refine h_aload_n dX1_isAllAsSeen_13 rfl ?_
  refine g_X1_144 (by omega) dX1_isAllAsSeen_14 ?_
  refine h_icmp_ge (tgt := 87) dX1_isAllAsSeen_17 (by decide) (fun q1 => ?_) (fun q1 => ?_)
  · rw [if_pos q1] at h
    refine h_iconst (1 : Int32) dX1_isAllAsSeen_87 k_iconst_1 ?_
    cases h
    exact h_zret dX1_isAllAsSeen_88 rfl rfl E
  · rw [if_neg q1] at h
    refine h_aload_n dX1_isAllAsSeen_20 rfl ?_
    refine g_X1_149 (by omega) dX1_isAllAsSeen_21 ?_
    refine h_iload dX1_isAllAsSeen_24 rfl ?_
    obtain ⟨g1, h⟩ := gd_some h
    refine al_44 (by omega) v4.toNatClampNeg rfl dX1_isAllAsSeen_26 g1 ?_
    obtain ⟨x1, e1, h⟩ := bnd_some h
    refine h_nmv e1 ?_
    refine h_istore dX1_isAllAsSeen_27 (by decide) rfl ?_
    refine h_aload_n dX1_isAllAsSeen_29 rfl ?_
    refine g_X1_28 (by omega) dX1_isAllAsSeen_30 ?_
    refine h_iload dX1_isAllAsSeen_33 rfl ?_
    obtain ⟨g2, h⟩ := gd_some h
    refine al_21 (by omega) x1.toNatClampNeg rfl dX1_isAllAsSeen_35 g2 ?_
    refine h_iload dX1_isAllAsSeen_36 rfl ?_
    refine h_iload_n dX1_isAllAsSeen_38 rfl ?_
    refine h_icmp_ne (tgt := 46) dX1_isAllAsSeen_39 (by decide) (fun q2 => ?_) (fun q2 => ?_)
    · rw [if_neg q2] at h
      refine h_iconst (0 : Int32) dX1_isAllAsSeen_46 k_iconst_0 ?_
      exact h_mask [true, true, true, true, true, false, false] (b_X1_isAllAsSeen_47 X Q H11 hz0 (by omega) h E)
    · rw [if_pos q2] at h
      refine h_iload_n dX1_isAllAsSeen_42 rfl ?_
      refine h_goto (tgt := 47) dX1_isAllAsSeen_43 (by decide) ?_
      exact h_mask [true, true, true, true, true, false, false] (b_X1_isAllAsSeen_47 X Q H11 hz0 (by omega) h E)
def f_X1_isAllAsSeen  (I : Mem) (P : PMem) (z0 : Nat) (v1 : Int32) (v2 : Int32) : Option (Int32) :=
  gd (decide ((P 1 z0 0 1) < 2)) <|
  f_X1_isAllAsSeen_11 I P z0 FU v1 v2 (5 * (P 1 z0 0 1) + 4) (0 : Int32)
theorem b_X1_isAllAsSeen (X : CX) (Q : State → Prop) {I : Mem} {P : PMem} {O : Nat → Int64} {D : Bool} {n : Nat} {z0 : Nat} {v1 : Int32} {v2 : Int32} {r : (Int32)}  (hz0 : z0 < 2) (h : f_X1_isAllAsSeen I P z0 v1 v2 = some r) (E : EndR X cX1_isAllAsSeen RX1 7 (some .boolean) 2 n (some (.inl r)) I P O D Q) : Here X cX1_isAllAsSeen RX1 7 (some .boolean) 2 n 0 [some (.inr (.inr (1, z0, 0))), some (.inl v1), some (.inl v2), none, none, none, none] [] I P O D n Q := by
  unfold f_X1_isAllAsSeen at h
  refine h_aload_n dX1_isAllAsSeen_0 rfl ?_
  refine g_X1_48 (by omega) dX1_isAllAsSeen_1 ?_
  obtain ⟨g1, h⟩ := gd_some h
  have w1 := of_decide_eq_true g1
  refine g_X1_218 (by omega) dX1_isAllAsSeen_4 ?_
  refine h_astore_n dX1_isAllAsSeen_7 (by decide) rfl ?_
  refine h_iconst (0 : Int32) dX1_isAllAsSeen_8 k_iconst_0 ?_
  refine h_istore dX1_isAllAsSeen_9 (by decide) rfl ?_
  exact (b_X1_isAllAsSeen_11 X Q hz0 FU (by omega) h E)
theorem m_X1_isAllAsSeen {I : Mem} {P : PMem} {O : Nat → Int64} {D : Bool} {n : Nat} {z0 : Nat} {v1 : Int32} {v2 : Int32} {r : (Int32)} (hz0 : z0 < 2) (h : f_X1_isAllAsSeen I P z0 v1 v2 = some r) : MethR yX1_isAllAsSeen cX1_isAllAsSeen 7 (some .boolean) 2 [.inr (.inr (1, z0, 0)), .inl v1, .inl v2] I P O D n (some (.inl r)) I P O D n := meth_R (Nat.le_refl _) (by decide) rfl (Nat.le_of_ble_eq_true rfl) rfl (fun X Q E => b_X1_isAllAsSeen X Q hz0 h E)
def f_X1_playGame_22 (k2 : Mem → Int32 → Int32 → Option (Mem)) (P : PMem) (z0 : Nat) : Nat → Mem → Int32 → Int32 → Int32 → Option (Mem)
  | 0, _, _, _, _ => none
  | fu + 1, I, v1, v2, v3 =>
    gd (decide ((P 1 z0 0 0) < 2)) <|
    if (I 3 (P 1 z0 0 0) 0 7) ≤ v3 then (k2 I v1 (v2 + (1 : Int32))) else ((f_X1_trioWith I P z0 v1 (jshl (1 : Int32) v3) ((I 1 z0 0 2) ||| (jshl (1 : Int32) v2))).bind fun y1 =>
    if y1 = 0 then ((f_X1_playGame_22 k2 P z0 fu) I v1 v2 (v3 + (1 : Int32))) else (gd (inb v2 5) <|
    bnd (upd4 I 26 z0 0 v2.toNatClampNeg ((I 26 z0 0 v2.toNatClampNeg) ||| (jshl (1 : Int32) v3))) fun I1' =>
    (f_X1_playGame_22 k2 P z0 fu) I1' v1 v2 (v3 + (1 : Int32))))
theorem b_X1_playGame_22 (X : CX) (Q : State → Prop) {P : PMem} {O : Nat → Int64} {D : Bool} {n : Nat} {k2 : Mem → Int32 → Int32 → Option (Mem)} {z0 : Nat} {r : (Mem)}  (H2 : ∀ (I : Mem) (v1 : Int32) (v2 : Int32), k2 I v1 v2 = some r → Here X cX1_playGame RX1 4 (none) 4 n 2 [some (.inr (.inr (1, z0, 0))), some (.inl v1), some (.inl v2), none] [] I P O D n Q) (hz0 : z0 < 2) : ∀ (fu : Nat) {I : Mem} {v1 : Int32} {v2 : Int32} {v3 : Int32}, f_X1_playGame_22 k2 P z0 fu I v1 v2 v3 = some r → EndR X cX1_playGame RX1 4 (none) 4 n none r P O D Q → Here X cX1_playGame RX1 4 (none) 4 n 22 [some (.inr (.inr (1, z0, 0))), some (.inl v1), some (.inl v2), some (.inl v3)] [] I P O D n Q := by
  intro fu
  induction fu with
  | zero => intro I v1 v2 v3 h E; cases h
  | succ fu ih =>
  intro I v1 v2 v3 h E
  have H22 : ∀ (I : Mem) (v1 : Int32) (v2 : Int32) (v3 : Int32), f_X1_playGame_22 k2 P z0 fu I v1 v2 v3 = some r → Here X cX1_playGame RX1 4 (none) 4 n 22 [some (.inr (.inr (1, z0, 0))), some (.inl v1), some (.inl v2), some (.inl v3)] [] I P O D n Q := fun _ _ _ _ b => ih b E
  simp only [f_X1_playGame_22] at h
  refine h_iload_n dX1_playGame_22 rfl ?_
  refine h_aload_n dX1_playGame_23 rfl ?_
  refine g_X1_44 (by omega) dX1_playGame_24 ?_
  obtain ⟨g1, h⟩ := gd_some h
  have w1 := of_decide_eq_true g1
  refine g_X1_56 (by omega) dX1_playGame_27 ?_
  refine h_icmp_ge (tgt := 70) dX1_playGame_30 (by decide) (fun q1 => ?_) (fun q1 => ?_)
  · rw [if_pos q1] at h
    refine h_iinc (1 : Int32) dX1_playGame_70 rfl k_iinc_1 (by decide) rfl ?_
    refine h_goto (tgt := 2) dX1_playGame_73 (by decide) ?_
    exact h_mask [true, true, true, false] (H2 _ _ _ h)
  · rw [if_neg q1] at h
    refine h_aload_n dX1_playGame_33 rfl ?_
    refine h_iload_n dX1_playGame_34 rfl ?_
    refine h_iconst (1 : Int32) dX1_playGame_35 k_iconst_1 ?_
    refine h_iload_n dX1_playGame_36 rfl ?_
    refine h_shl dX1_playGame_37 ?_
    refine h_aload_n dX1_playGame_38 rfl ?_
    refine g_X1_52 (by omega) dX1_playGame_39 ?_
    refine h_iconst (1 : Int32) dX1_playGame_42 k_iconst_1 ?_
    refine h_iload_n dX1_playGame_43 rfl ?_
    refine h_shl dX1_playGame_44 ?_
    refine h_ior dX1_playGame_45 ?_
    obtain ⟨y1, hh1, h⟩ := obd_some h
    refine h_cVi [.inl v1, .inl (jshl (1 : Int32) v3), .inl ((I 1 z0 0 2) ||| (jshl (1 : Int32) v2))] (m_X1_trioWith (by omega) hh1) cw_X1_201 dX1_playGame_46 rfl (ok_1 (by omega)) (by decide) rfl (Or.inr rfl) rfl ?_
    refine h_if_eq (tgt := 64) dX1_playGame_49 (by decide) (fun q2 => ?_) (fun q2 => ?_)
    · rw [if_pos q2] at h
      refine h_iinc (1 : Int32) dX1_playGame_64 rfl k_iinc_1 (by decide) rfl ?_
      refine h_goto (tgt := 22) dX1_playGame_67 (by decide) ?_
      exact (H22 _ _ _ _ h)
    · rw [if_neg q2] at h
      refine h_aload_n dX1_playGame_52 rfl ?_
      refine g_X1_41 (by omega) dX1_playGame_53 ?_
      refine h_iload_n dX1_playGame_56 rfl ?_
      refine h_dup2 dX1_playGame_57 (fun _ => rfl) (fun _ => rfl) ?_
      obtain ⟨g2, h⟩ := gd_some h
      refine al_26 (by omega) v2.toNatClampNeg rfl dX1_playGame_58 g2 ?_
      refine h_iconst (1 : Int32) dX1_playGame_59 k_iconst_1 ?_
      refine h_iload_n dX1_playGame_60 rfl ?_
      refine h_shl dX1_playGame_61 ?_
      refine h_ior dX1_playGame_62 ?_
      obtain ⟨I1', e1, h⟩ := bnd_some h
      refine as_26 (by omega) v2.toNatClampNeg rfl dX1_playGame_63 g2 ?_
      refine h_nmI e1 ?_
      refine h_iinc (1 : Int32) dX1_playGame_64 rfl k_iinc_1 (by decide) rfl ?_
      refine h_goto (tgt := 22) dX1_playGame_67 (by decide) ?_
      exact (H22 _ _ _ _ h)
def f_X1_playGame_2  (P : PMem) (z0 : Nat) : Nat → Mem → Int32 → Int32 → Option (Mem)
  | 0, _, _, _ => none
  | fu + 1, I, v1, v2 =>
    gd (decide ((P 1 z0 0 0) < 2)) <|
    if (I 3 (P 1 z0 0 0) 0 7) ≤ v2 then (some I) else (gd (inb v2 5) <|
    bnd (upd4 I 26 z0 0 v2.toNatClampNeg (0 : Int32)) fun I1' =>
    f_X1_playGame_22 (f_X1_playGame_2 P z0 fu) P z0 FU I1' v1 v2 (0 : Int32))
theorem b_X1_playGame_2 (X : CX) (Q : State → Prop) {P : PMem} {O : Nat → Int64} {D : Bool} {n : Nat} {z0 : Nat} {r : (Mem)}  (hz0 : z0 < 2) : ∀ (fu : Nat) {I : Mem} {v1 : Int32} {v2 : Int32}, f_X1_playGame_2 P z0 fu I v1 v2 = some r → EndR X cX1_playGame RX1 4 (none) 4 n none r P O D Q → Here X cX1_playGame RX1 4 (none) 4 n 2 [some (.inr (.inr (1, z0, 0))), some (.inl v1), some (.inl v2), none] [] I P O D n Q := by
  intro fu
  induction fu with
  | zero => intro I v1 v2 h E; cases h
  | succ fu ih =>
  intro I v1 v2 h E
  have H2 : ∀ (I : Mem) (v1 : Int32) (v2 : Int32), f_X1_playGame_2 P z0 fu I v1 v2 = some r → Here X cX1_playGame RX1 4 (none) 4 n 2 [some (.inr (.inr (1, z0, 0))), some (.inl v1), some (.inl v2), none] [] I P O D n Q := fun _ _ _ b => ih b E
  simp only [f_X1_playGame_2] at h
  refine h_iload_n dX1_playGame_2 rfl ?_
  refine h_aload_n dX1_playGame_3 rfl ?_
  refine g_X1_44 (by omega) dX1_playGame_4 ?_
  obtain ⟨g1, h⟩ := gd_some h
  have w1 := of_decide_eq_true g1
  refine g_X1_56 (by omega) dX1_playGame_7 ?_
  refine h_icmp_ge (tgt := 76) dX1_playGame_10 (by decide) (fun q1 => ?_) (fun q1 => ?_)
  · rw [if_pos q1] at h
    cases h
    exact h_vret dX1_playGame_76 rfl E
  · rw [if_neg q1] at h
    refine h_aload_n dX1_playGame_13 rfl ?_
    refine g_X1_41 (by omega) dX1_playGame_14 ?_
    refine h_iload_n dX1_playGame_17 rfl ?_
    refine h_iconst (0 : Int32) dX1_playGame_18 k_iconst_0 ?_
    obtain ⟨g2, h⟩ := gd_some h
    obtain ⟨I1', e1, h⟩ := bnd_some h
    refine as_26 (by omega) v2.toNatClampNeg rfl dX1_playGame_19 g2 ?_
    refine h_nmI e1 ?_
    refine h_iconst (0 : Int32) dX1_playGame_20 k_iconst_0 ?_
    refine h_istore_n dX1_playGame_21 (by decide) rfl ?_
    exact (b_X1_playGame_22 X Q H2 hz0 FU  h E)
def f_X1_playGame  (P : PMem) (z0 : Nat) (I : Mem) (v1 : Int32) : Option (Mem) :=
  f_X1_playGame_2 P z0 FU I v1 (0 : Int32)
theorem b_X1_playGame (X : CX) (Q : State → Prop) {I : Mem} {P : PMem} {O : Nat → Int64} {D : Bool} {n : Nat} {z0 : Nat} {v1 : Int32} {r : (Mem)}  (hz0 : z0 < 2) (h : f_X1_playGame P z0 I v1 = some r) (E : EndR X cX1_playGame RX1 4 (none) 4 n none r P O D Q) : Here X cX1_playGame RX1 4 (none) 4 n 0 [some (.inr (.inr (1, z0, 0))), some (.inl v1), none, none] [] I P O D n Q := by
  unfold f_X1_playGame at h
  refine h_iconst (0 : Int32) dX1_playGame_0 k_iconst_0 ?_
  refine h_istore_n dX1_playGame_1 (by decide) rfl ?_
  exact (b_X1_playGame_2 X Q hz0 FU  h E)
theorem m_X1_playGame {I : Mem} {P : PMem} {O : Nat → Int64} {D : Bool} {n : Nat} {z0 : Nat} {v1 : Int32} {r : (Mem)} (hz0 : z0 < 2) (h : f_X1_playGame P z0 I v1 = some r) : MethR yX1_playGame cX1_playGame 4 (none) 4 [.inr (.inr (1, z0, 0)), .inl v1] I P O D n none r P O D n := meth_R (Nat.le_refl _) (by decide) rfl (Nat.le_of_ble_eq_true rfl) rfl (fun X Q E => b_X1_playGame X Q hz0 h E)
def f_X1_rests_14  (I : Mem) (P : PMem) (z0 : Nat) : Nat → Int32 → Int32 → Int32 → Int32 → Option (Int32)
  | 0, _, _, _, _ => none
  | fu + 1, v1, v2, v3, v4 =>
    gd (decide ((P 1 z0 0 0) < 2)) <|
    if (I 3 (P 1 z0 0 0) 0 7) ≤ v4 then (some (1 : Int32)) else (gd (inb v4 5) <|
    if v3 < ((jushr (I 26 z0 0 v4.toNatClampNeg) v2) &&& (1 : Int32)) then (some (0 : Int32)) else (gd (inb v1 5) <|
    if v3 ≤ ((jushr (I 26 z0 0 v1.toNatClampNeg) v4) &&& (1 : Int32)) then ((f_X1_rests_14 I P z0 fu) v1 v2 v3 (v4 + (1 : Int32))) else (some (0 : Int32))))
theorem b_X1_rests_14 (X : CX) (Q : State → Prop) {I : Mem} {P : PMem} {O : Nat → Int64} {D : Bool} {n : Nat} {z0 : Nat} {r : (Int32)}  (hz0 : z0 < 2) : ∀ (fu : Nat) {v1 : Int32} {v2 : Int32} {v3 : Int32} {v4 : Int32}, f_X1_rests_14 I P z0 fu v1 v2 v3 v4 = some r → EndR X cX1_rests RX1 5 (some .boolean) 2 n (some (.inl r)) I P O D Q → Here X cX1_rests RX1 5 (some .boolean) 2 n 14 [some (.inr (.inr (1, z0, 0))), some (.inl v1), some (.inl v2), some (.inl v3), some (.inl v4)] [] I P O D n Q := by
  intro fu
  induction fu with
  | zero => intro v1 v2 v3 v4 h E; cases h
  | succ fu ih =>
  intro v1 v2 v3 v4 h E
  have H14 : ∀ (v1 : Int32) (v2 : Int32) (v3 : Int32) (v4 : Int32), f_X1_rests_14 I P z0 fu v1 v2 v3 v4 = some r → Here X cX1_rests RX1 5 (some .boolean) 2 n 14 [some (.inr (.inr (1, z0, 0))), some (.inl v1), some (.inl v2), some (.inl v3), some (.inl v4)] [] I P O D n Q := fun _ _ _ _ b => ih b E
  simp only [f_X1_rests_14] at h
  refine h_iload dX1_rests_14 rfl ?_
  refine h_aload_n dX1_rests_16 rfl ?_
  refine g_X1_44 (by omega) dX1_rests_17 ?_
  obtain ⟨g1, h⟩ := gd_some h
  have w1 := of_decide_eq_true g1
  refine g_X1_56 (by omega) dX1_rests_20 ?_
  refine h_icmp_ge (tgt := 64) dX1_rests_23 (by decide) (fun q1 => ?_) (fun q1 => ?_)
  · rw [if_pos q1] at h
    refine h_iconst (1 : Int32) dX1_rests_64 k_iconst_1 ?_
    cases h
    exact h_zret dX1_rests_65 rfl rfl E
  · rw [if_neg q1] at h
    refine h_aload_n dX1_rests_26 rfl ?_
    refine g_X1_41 (by omega) dX1_rests_27 ?_
    refine h_iload dX1_rests_30 rfl ?_
    obtain ⟨g2, h⟩ := gd_some h
    refine al_26 (by omega) v4.toNatClampNeg rfl dX1_rests_32 g2 ?_
    refine h_iload_n dX1_rests_33 rfl ?_
    refine h_ushr dX1_rests_34 ?_
    refine h_iconst (1 : Int32) dX1_rests_35 k_iconst_1 ?_
    refine h_iand dX1_rests_36 ?_
    refine h_iload_n dX1_rests_37 rfl ?_
    refine h_icmp_gt (tgt := 56) dX1_rests_38 (by decide) (fun q2 => ?_) (fun q2 => ?_)
    · rw [if_pos q2] at h
      refine h_iconst (0 : Int32) dX1_rests_56 k_iconst_0 ?_
      cases h
      exact h_zret dX1_rests_57 rfl rfl E
    · rw [if_neg q2] at h
      refine h_aload_n dX1_rests_41 rfl ?_
      refine g_X1_41 (by omega) dX1_rests_42 ?_
      refine h_iload_n dX1_rests_45 rfl ?_
      obtain ⟨g3, h⟩ := gd_some h
      refine al_26 (by omega) v1.toNatClampNeg rfl dX1_rests_46 g3 ?_
      refine h_iload dX1_rests_47 rfl ?_
      refine h_ushr dX1_rests_49 ?_
      refine h_iconst (1 : Int32) dX1_rests_50 k_iconst_1 ?_
      refine h_iand dX1_rests_51 ?_
      refine h_iload_n dX1_rests_52 rfl ?_
      refine h_icmp_ge (tgt := 58) dX1_rests_53 (by decide) (fun q3 => ?_) (fun q3 => ?_)
      · rw [if_pos q3] at h
        refine h_iinc (1 : Int32) dX1_rests_58 rfl k_iinc_1 (by decide) rfl ?_
        refine h_goto (tgt := 14) dX1_rests_61 (by decide) ?_
        exact (H14 _ _ _ _ h)
      · rw [if_neg q3] at h
        refine h_iconst (0 : Int32) dX1_rests_56 k_iconst_0 ?_
        cases h
        exact h_zret dX1_rests_57 rfl rfl E
def f_X1_rests  (I : Mem) (P : PMem) (z0 : Nat) (v1 : Int32) (v2 : Int32) : Option (Int32) :=
  gd (inb v1 5) <|
  bnd ((jushr (I 26 z0 0 v1.toNatClampNeg) v2) &&& (1 : Int32)) fun x1 =>
  f_X1_rests_14 I P z0 FU v1 v2 x1 (0 : Int32)
theorem b_X1_rests (X : CX) (Q : State → Prop) {I : Mem} {P : PMem} {O : Nat → Int64} {D : Bool} {n : Nat} {z0 : Nat} {v1 : Int32} {v2 : Int32} {r : (Int32)}  (hz0 : z0 < 2) (h : f_X1_rests I P z0 v1 v2 = some r) (E : EndR X cX1_rests RX1 5 (some .boolean) 2 n (some (.inl r)) I P O D Q) : Here X cX1_rests RX1 5 (some .boolean) 2 n 0 [some (.inr (.inr (1, z0, 0))), some (.inl v1), some (.inl v2), none, none] [] I P O D n Q := by
  unfold f_X1_rests at h
  refine h_aload_n dX1_rests_0 rfl ?_
  refine g_X1_41 (by omega) dX1_rests_1 ?_
  refine h_iload_n dX1_rests_4 rfl ?_
  obtain ⟨g1, h⟩ := gd_some h
  refine al_26 (by omega) v1.toNatClampNeg rfl dX1_rests_5 g1 ?_
  refine h_iload_n dX1_rests_6 rfl ?_
  refine h_ushr dX1_rests_7 ?_
  refine h_iconst (1 : Int32) dX1_rests_8 k_iconst_1 ?_
  refine h_iand dX1_rests_9 ?_
  obtain ⟨x1, e1, h⟩ := bnd_some h
  refine h_nmv e1 ?_
  refine h_istore_n dX1_rests_10 (by decide) rfl ?_
  refine h_iconst (0 : Int32) dX1_rests_11 k_iconst_0 ?_
  refine h_istore dX1_rests_12 (by decide) rfl ?_
  exact (b_X1_rests_14 X Q hz0 FU  h E)
theorem m_X1_rests {I : Mem} {P : PMem} {O : Nat → Int64} {D : Bool} {n : Nat} {z0 : Nat} {v1 : Int32} {v2 : Int32} {r : (Int32)} (hz0 : z0 < 2) (h : f_X1_rests I P z0 v1 v2 = some r) : MethR yX1_rests cX1_rests 5 (some .boolean) 2 [.inr (.inr (1, z0, 0)), .inl v1, .inl v2] I P O D n (some (.inl r)) I P O D n := meth_R (Nat.le_refl _) (by decide) rfl (Nat.le_of_ble_eq_true rfl) rfl (fun X Q E => b_X1_rests X Q hz0 h E)
def f_X2_draw   (I : Mem) (v1 : Int32) : Option (Int32 × Mem) :=
  bnd (upd4 I 2 0 0 0 (((I 2 0 0 0) * (1103515245 : Int32)) + (12345 : Int32))) fun I1' =>
  bnd ((jushr (I1' 2 0 0 0) (16 : Int32)) &&& (32767 : Int32)) fun x1 =>
  if v1 ≤ 0 then (some ((0 : Int32), I1')) else (gd (v1 != 0) <|
  some ((jrem x1 v1), I1'))
theorem b_X2_draw (X : CX) (Q : State → Prop) {I : Mem} {P : PMem} {O : Nat → Int64} {D : Bool} {n : Nat} {v1 : Int32} {r : (Int32 × Mem)}  (hD : D = true) (h : f_X2_draw I v1 = some r) (E : EndR X cX2_draw RX2 3 (some .int) 2 n (some (.inl r.1)) r.2 P O D Q) : Here X cX2_draw RX2 3 (some .int) 2 n 0 [some (.inr (.inr (2, 0, 0))), some (.inl v1), none] [] I P O D n Q := by
  unfold f_X2_draw at h
  refine h_aload_n dX2_draw_0 rfl ?_
  refine h_aload_n dX2_draw_1 rfl ?_
  refine g_X2_7 hD dX2_draw_2 ?_
  refine h_ldci (1103515245 : Int32) dX2_draw_5 kc_X2_13 ?_
  refine h_imul dX2_draw_7 ?_
  refine h_sipush (12345 : Int32) dX2_draw_8 k_sipush_12345 ?_
  refine h_iadd dX2_draw_11 ?_
  obtain ⟨I1', e1, h⟩ := bnd_some h
  refine p_X2_7 hD dX2_draw_12 ?_
  refine h_nmI e1 ?_
  refine h_aload_n dX2_draw_15 rfl ?_
  refine g_X2_7 hD dX2_draw_16 ?_
  refine h_bipush (16 : Int32) dX2_draw_19 k_bipush_16 ?_
  refine h_ushr dX2_draw_21 ?_
  refine h_sipush (32767 : Int32) dX2_draw_22 k_sipush_32767 ?_
  refine h_iand dX2_draw_25 ?_
  obtain ⟨x1, e2, h⟩ := bnd_some h
  refine h_nmv e2 ?_
  refine h_istore_n dX2_draw_26 (by decide) rfl ?_
  refine h_iload_n dX2_draw_27 rfl ?_
  refine h_if_le (tgt := 37) dX2_draw_28 (by decide) (fun q1 => ?_) (fun q1 => ?_)
  · rw [if_pos q1] at h
    refine h_iconst (0 : Int32) dX2_draw_37 k_iconst_0 ?_
    cases h
    exact h_iret dX2_draw_38 rfl E
  · rw [if_neg q1] at h
    refine h_iload_n dX2_draw_31 rfl ?_
    refine h_iload_n dX2_draw_32 rfl ?_
    obtain ⟨g1, h⟩ := gd_some h
    refine h_rem dX2_draw_33 g1 ?_
    refine h_goto (tgt := 38) dX2_draw_34 (by decide) ?_
    cases h
    exact h_iret dX2_draw_38 rfl E
theorem m_X2_draw {I : Mem} {P : PMem} {O : Nat → Int64} {D : Bool} {n : Nat} {v1 : Int32} {r : (Int32 × Mem)}  (hD : D = true) (h : f_X2_draw I v1 = some r) : MethR yX2_draw cX2_draw 3 (some .int) 2 [.inr (.inr (2, 0, 0)), .inl v1] I P O D n (some (.inl r.1)) r.2 P O D n := meth_R (Nat.le_refl _) (by decide) rfl (Nat.le_of_ble_eq_true rfl) rfl (fun X Q E => b_X2_draw X Q  hD h E)
def f_X4_clear  (z0 : Nat) (I : Mem) : Option (Mem) :=
  bnd (upd4 I 4 z0 0 1 (0 : Int32)) fun I1' =>
  some I1'
theorem b_X4_clear (X : CX) (Q : State → Prop) {I : Mem} {P : PMem} {O : Nat → Int64} {D : Bool} {n : Nat} {z0 : Nat} {r : (Mem)}  (hz0 : z0 < 2) (h : f_X4_clear z0 I = some r) (E : EndR X cX4_clear RX4 1 (none) 2 n none r P O D Q) : Here X cX4_clear RX4 1 (none) 2 n 0 [some (.inr (.inr (4, z0, 0)))] [] I P O D n Q := by
  unfold f_X4_clear at h
  refine h_aload_n dX4_clear_0 rfl ?_
  refine h_iconst (0 : Int32) dX4_clear_1 k_iconst_0 ?_
  obtain ⟨I1', e1, h⟩ := bnd_some h
  refine p_X4_21 (by omega) dX4_clear_2 ?_
  refine h_nmI e1 ?_
  cases h
  exact h_vret dX4_clear_5 rfl E
theorem m_X4_clear {I : Mem} {P : PMem} {O : Nat → Int64} {D : Bool} {n : Nat} {z0 : Nat} {r : (Mem)} (hz0 : z0 < 2) (h : f_X4_clear z0 I = some r) : MethR yX4_clear cX4_clear 1 (none) 2 [.inr (.inr (4, z0, 0))] I P O D n none r P O D n := meth_R (Nat.le_refl _) (by decide) rfl (Nat.le_of_ble_eq_true rfl) rfl (fun X Q E => b_X4_clear X Q hz0 h E)
def f_X3_clear_63  (z0 : Nat) : Nat → Mem → Int32 → Option (Mem)
  | 0, _, _ => none
  | fu + 1, I, v1 =>
    if (6 : Int32) ≤ v1 then (some I) else (gd (inb v1 6) <|
    (f_J7_fill_53178 40 z0 v1.toNatClampNeg I (-1 : Int32)).bind fun y1 =>
    (f_X3_clear_63 z0 fu) y1 (v1 + (1 : Int32)))
theorem b_X3_clear_63 (X : CX) (Q : State → Prop) {P : PMem} {O : Nat → Int64} {D : Bool} {n : Nat} {z0 : Nat} {r : (Mem)}  (hz0 : z0 < 2) : ∀ (fu : Nat) {I : Mem} {v1 : Int32}, f_X3_clear_63 z0 fu I v1 = some r → EndR X cX3_clear RX3 2 (none) 3 n none r P O D Q → Here X cX3_clear RX3 2 (none) 3 n 63 [some (.inr (.inr (3, z0, 0))), some (.inl v1)] [] I P O D n Q := by
  intro fu
  induction fu with
  | zero => intro I v1 h E; cases h
  | succ fu ih =>
  intro I v1 h E
  have H63 : ∀ (I : Mem) (v1 : Int32), f_X3_clear_63 z0 fu I v1 = some r → Here X cX3_clear RX3 2 (none) 3 n 63 [some (.inr (.inr (3, z0, 0))), some (.inl v1)] [] I P O D n Q := fun _ _ b => ih b E
  simp only [f_X3_clear_63] at h
  refine h_iload_n dX3_clear_63 rfl ?_
  refine h_bipush (6 : Int32) dX3_clear_64 k_bipush_6 ?_
  refine h_icmp_ge (tgt := 85) dX3_clear_66 (by decide) (fun q1 => ?_) (fun q1 => ?_)
  · rw [if_pos q1] at h
    cases h
    exact h_vret dX3_clear_85 rfl E
  · rw [if_neg q1] at h
    refine h_aload_n dX3_clear_69 rfl ?_
    refine g_X3_38 (by omega) dX3_clear_70 ?_
    refine h_iload_n dX3_clear_73 rfl ?_
    obtain ⟨g1, h⟩ := gd_some h
    refine ag_39 (by omega) v1.toNatClampNeg rfl dX3_clear_74 g1 ?_
    have w1 := inb_lt g1
    refine h_iconst (-1 : Int32) dX3_clear_75 k_iconst_m1 ?_
    obtain ⟨y1, hh1, h⟩ := obd_some h
    refine h_cSv [.inr (.inr (40, z0, v1.toNatClampNeg)), .inl (-1 : Int32)] (m_J7_fill_53178 (ia_40 (by omega) (by omega)) hh1) cs_X3_70 dX3_clear_76 rfl (by decide) rfl (Or.inr rfl) rfl ?_
    refine h_iinc (1 : Int32) dX3_clear_79 rfl k_iinc_1 (by decide) rfl ?_
    refine h_goto (tgt := 63) dX3_clear_82 (by decide) ?_
    exact (H63 _ _ h)
def f_X3_clear_39  (z0 : Nat) : Nat → Mem → Int32 → Option (Mem)
  | 0, _, _ => none
  | fu + 1, I, v1 =>
    if (9 : Int32) ≤ v1 then (f_X3_clear_63 z0 FU I (0 : Int32)) else (gd (inb v1 9) <|
    (f_J7_fill_53178 28 z0 v1.toNatClampNeg I (0 : Int32)).bind fun y1 =>
    (f_X3_clear_39 z0 fu) y1 (v1 + (1 : Int32)))
theorem b_X3_clear_39 (X : CX) (Q : State → Prop) {P : PMem} {O : Nat → Int64} {D : Bool} {n : Nat} {z0 : Nat} {r : (Mem)}  (hz0 : z0 < 2) : ∀ (fu : Nat) {I : Mem} {v1 : Int32}, f_X3_clear_39 z0 fu I v1 = some r → EndR X cX3_clear RX3 2 (none) 3 n none r P O D Q → Here X cX3_clear RX3 2 (none) 3 n 39 [some (.inr (.inr (3, z0, 0))), some (.inl v1)] [] I P O D n Q := by
  intro fu
  induction fu with
  | zero => intro I v1 h E; cases h
  | succ fu ih =>
  intro I v1 h E
  have H39 : ∀ (I : Mem) (v1 : Int32), f_X3_clear_39 z0 fu I v1 = some r → Here X cX3_clear RX3 2 (none) 3 n 39 [some (.inr (.inr (3, z0, 0))), some (.inl v1)] [] I P O D n Q := fun _ _ b => ih b E
  simp only [f_X3_clear_39] at h
  refine h_iload_n dX3_clear_39 rfl ?_
  refine h_bipush (9 : Int32) dX3_clear_40 k_bipush_9 ?_
  refine h_icmp_ge (tgt := 61) dX3_clear_42 (by decide) (fun q1 => ?_) (fun q1 => ?_)
  · rw [if_pos q1] at h
    refine h_iconst (0 : Int32) dX3_clear_61 k_iconst_0 ?_
    refine h_istore_n dX3_clear_62 (by decide) rfl ?_
    exact (b_X3_clear_63 X Q hz0 FU  h E)
  · rw [if_neg q1] at h
    refine h_aload_n dX3_clear_45 rfl ?_
    refine g_X3_11 (by omega) dX3_clear_46 ?_
    refine h_iload_n dX3_clear_49 rfl ?_
    obtain ⟨g1, h⟩ := gd_some h
    refine ag_27 (by omega) v1.toNatClampNeg rfl dX3_clear_50 g1 ?_
    have w1 := inb_lt g1
    refine h_iconst (0 : Int32) dX3_clear_51 k_iconst_0 ?_
    obtain ⟨y1, hh1, h⟩ := obd_some h
    refine h_cSv [.inr (.inr (28, z0, v1.toNatClampNeg)), .inl (0 : Int32)] (m_J7_fill_53178 (ia_28 (by omega) (by omega)) hh1) cs_X3_70 dX3_clear_52 rfl (by decide) rfl (Or.inr rfl) rfl ?_
    refine h_iinc (1 : Int32) dX3_clear_55 rfl k_iinc_1 (by decide) rfl ?_
    refine h_goto (tgt := 39) dX3_clear_58 (by decide) ?_
    exact (H39 _ _ h)
def f_X3_clear  (z0 : Nat) (I : Mem) : Option (Mem) :=
  bnd (upd4 I 3 z0 0 0 (0 : Int32)) fun I1' =>
  bnd (upd4 I1' 3 z0 0 1 (0 : Int32)) fun I2' =>
  bnd (upd4 I2' 3 z0 0 2 (0 : Int32)) fun I3' =>
  bnd (upd4 I3' 3 z0 0 3 (0 : Int32)) fun I4' =>
  bnd (upd4 I4' 3 z0 0 7 (0 : Int32)) fun I5' =>
  bnd (upd4 I5' 3 z0 0 13 (0 : Int32)) fun I6' =>
  (f_X4_clear z0 I6').bind fun y1 =>
  f_X3_clear_39 z0 FU y1 (0 : Int32)
theorem b_X3_clear (X : CX) (Q : State → Prop) {I : Mem} {P : PMem} {O : Nat → Int64} {D : Bool} {n : Nat} {z0 : Nat} {r : (Mem)}  (hz0 : z0 < 2) (h : f_X3_clear z0 I = some r) (E : EndR X cX3_clear RX3 2 (none) 3 n none r P O D Q) : Here X cX3_clear RX3 2 (none) 3 n 0 [some (.inr (.inr (3, z0, 0))), none] [] I P O D n Q := by
  unfold f_X3_clear at h
  refine h_aload_n dX3_clear_0 rfl ?_
  refine h_iconst (0 : Int32) dX3_clear_1 k_iconst_0 ?_
  obtain ⟨I1', e1, h⟩ := bnd_some h
  refine p_X3_48 (by omega) dX3_clear_2 ?_
  refine h_nmI e1 ?_
  refine h_aload_n dX3_clear_5 rfl ?_
  refine h_iconst (0 : Int32) dX3_clear_6 k_iconst_0 ?_
  obtain ⟨I2', e2, h⟩ := bnd_some h
  refine p_X3_52 (by omega) dX3_clear_7 ?_
  refine h_nmI e2 ?_
  refine h_aload_n dX3_clear_10 rfl ?_
  refine h_iconst (0 : Int32) dX3_clear_11 k_iconst_0 ?_
  obtain ⟨I3', e3, h⟩ := bnd_some h
  refine p_X3_55 (by omega) dX3_clear_12 ?_
  refine h_nmI e3 ?_
  refine h_aload_n dX3_clear_15 rfl ?_
  refine h_iconst (0 : Int32) dX3_clear_16 k_iconst_0 ?_
  obtain ⟨I4', e4, h⟩ := bnd_some h
  refine p_X3_58 (by omega) dX3_clear_17 ?_
  refine h_nmI e4 ?_
  refine h_aload_n dX3_clear_20 rfl ?_
  refine h_iconst (0 : Int32) dX3_clear_21 k_iconst_0 ?_
  obtain ⟨I5', e5, h⟩ := bnd_some h
  refine p_X3_61 (by omega) dX3_clear_22 ?_
  refine h_nmI e5 ?_
  refine h_aload_n dX3_clear_25 rfl ?_
  refine h_iconst (0 : Int32) dX3_clear_26 k_iconst_0 ?_
  obtain ⟨I6', e6, h⟩ := bnd_some h
  refine p_X3_64 (by omega) dX3_clear_27 ?_
  refine h_nmI e6 ?_
  refine h_aload_n dX3_clear_30 rfl ?_
  refine g_X3_44 (by omega) dX3_clear_31 ?_
  obtain ⟨y1, hh1, h⟩ := obd_some h
  refine h_cVv [] (m_X4_clear (by omega) hh1) cw_X3_67 dX3_clear_34 rfl (ok_4 (by omega)) (by decide) rfl (Or.inr rfl) rfl ?_
  refine h_iconst (0 : Int32) dX3_clear_37 k_iconst_0 ?_
  refine h_istore_n dX3_clear_38 (by decide) rfl ?_
  exact (b_X3_clear_39 X Q hz0 FU  h E)
theorem m_X3_clear {I : Mem} {P : PMem} {O : Nat → Int64} {D : Bool} {n : Nat} {z0 : Nat} {r : (Mem)} (hz0 : z0 < 2) (h : f_X3_clear z0 I = some r) : MethR yX3_clear cX3_clear 2 (none) 3 [.inr (.inr (3, z0, 0))] I P O D n none r P O D n := meth_R (Nat.le_refl _) (by decide) rfl (Nat.le_of_ble_eq_true rfl) rfl (fun X Q E => b_X3_clear X Q hz0 h E)
def f_X3_gossipTenths  (I : Mem) (z0 : Nat)  : Option (Int32) :=
  if (I 3 z0 0 3) = 0 then (some (10 : Int32)) else (some (I 3 z0 0 3))
theorem b_X3_gossipTenths (X : CX) (Q : State → Prop) {I : Mem} {P : PMem} {O : Nat → Int64} {D : Bool} {n : Nat} {z0 : Nat} {r : (Int32)}  (hz0 : z0 < 2) (h : f_X3_gossipTenths I z0 = some r) (E : EndR X cX3_gossipTenths RX3 1 (some .int) 2 n (some (.inl r)) I P O D Q) : Here X cX3_gossipTenths RX3 1 (some .int) 2 n 0 [some (.inr (.inr (3, z0, 0)))] [] I P O D n Q := by
  unfold f_X3_gossipTenths at h
  refine h_aload_n dX3_gossipTenths_0 rfl ?_
  refine g_X3_58 (by omega) dX3_gossipTenths_1 ?_
  refine h_if_ne (tgt := 12) dX3_gossipTenths_4 (by decide) (fun q1 => ?_) (fun q1 => ?_)
  · rw [if_neg q1] at h
    refine h_aload_n dX3_gossipTenths_12 rfl ?_
    refine g_X3_58 (by omega) dX3_gossipTenths_13 ?_
    cases h
    exact h_iret dX3_gossipTenths_16 rfl E
  · rw [if_pos q1] at h
    refine h_bipush (10 : Int32) dX3_gossipTenths_7 k_bipush_10 ?_
    refine h_goto (tgt := 16) dX3_gossipTenths_9 (by decide) ?_
    cases h
    exact h_iret dX3_gossipTenths_16 rfl E
theorem m_X3_gossipTenths {I : Mem} {P : PMem} {O : Nat → Int64} {D : Bool} {n : Nat} {z0 : Nat} {r : (Int32)} (hz0 : z0 < 2) (h : f_X3_gossipTenths I z0 = some r) : MethR yX3_gossipTenths cX3_gossipTenths 1 (some .int) 2 [.inr (.inr (3, z0, 0))] I P O D n (some (.inl r)) I P O D n := meth_R (Nat.le_refl _) (by decide) rfl (Nat.le_of_ble_eq_true rfl) rfl (fun X Q E => b_X3_gossipTenths X Q hz0 h E)
def f_X3_isJoined  (I : Mem) (z0 : Nat) (v1 : Int32) (v2 : Int32) : Option (Int32) :=
  gd (inb v1 9) <|
  gd (inb v2 9) <|
  if (I 28 z0 v1.toNatClampNeg v2.toNatClampNeg) ≤ 0 then (some (0 : Int32)) else (some (1 : Int32))
theorem b_X3_isJoined (X : CX) (Q : State → Prop) {I : Mem} {P : PMem} {O : Nat → Int64} {D : Bool} {n : Nat} {z0 : Nat} {v1 : Int32} {v2 : Int32} {r : (Int32)}  (hz0 : z0 < 2) (h : f_X3_isJoined I z0 v1 v2 = some r) (E : EndR X cX3_isJoined RX3 3 (some .boolean) 2 n (some (.inl r)) I P O D Q) : Here X cX3_isJoined RX3 3 (some .boolean) 2 n 0 [some (.inr (.inr (3, z0, 0))), some (.inl v1), some (.inl v2)] [] I P O D n Q := by
  unfold f_X3_isJoined at h
  refine h_aload_n dX3_isJoined_0 rfl ?_
  refine g_X3_11 (by omega) dX3_isJoined_1 ?_
  refine h_iload_n dX3_isJoined_4 rfl ?_
  obtain ⟨g1, h⟩ := gd_some h
  refine ag_27 (by omega) v1.toNatClampNeg rfl dX3_isJoined_5 g1 ?_
  have w1 := inb_lt g1
  refine h_iload_n dX3_isJoined_6 rfl ?_
  obtain ⟨g2, h⟩ := gd_some h
  refine al_28 (by omega) (by omega) v2.toNatClampNeg rfl dX3_isJoined_7 g2 ?_
  refine h_if_le (tgt := 15) dX3_isJoined_8 (by decide) (fun q1 => ?_) (fun q1 => ?_)
  · rw [if_pos q1] at h
    refine h_iconst (0 : Int32) dX3_isJoined_15 k_iconst_0 ?_
    cases h
    exact h_zret dX3_isJoined_16 rfl rfl E
  · rw [if_neg q1] at h
    refine h_iconst (1 : Int32) dX3_isJoined_11 k_iconst_1 ?_
    refine h_goto (tgt := 16) dX3_isJoined_12 (by decide) ?_
    cases h
    exact h_zret dX3_isJoined_16 rfl rfl E
theorem m_X3_isJoined {I : Mem} {P : PMem} {O : Nat → Int64} {D : Bool} {n : Nat} {z0 : Nat} {v1 : Int32} {v2 : Int32} {r : (Int32)} (hz0 : z0 < 2) (h : f_X3_isJoined I z0 v1 v2 = some r) : MethR yX3_isJoined cX3_isJoined 3 (some .boolean) 2 [.inr (.inr (3, z0, 0)), .inl v1, .inl v2] I P O D n (some (.inl r)) I P O D n := meth_R (Nat.le_refl _) (by decide) rfl (Nat.le_of_ble_eq_true rfl) rfl (fun X Q E => b_X3_isJoined X Q hz0 h E)
def f_X3_shortenWaysBy_72 (k12 : Mem → Int32 → Int32 → Int32 → Int32 → Option (Mem)) (z0 : Nat) (I : Mem) (v1 : Int32) (v2 : Int32) (v3 : Int32) (v4 : Int32) (v5 : Int32) : Option (Mem) :=
  gd (inb v2 9) <|
  gd (inb v4 9) <|
  bnd (upd4 I 30 z0 v2.toNatClampNeg v4.toNatClampNeg (v3 + v5)) fun I1' =>
  k12 I1' v1 v2 v3 (v4 + (1 : Int32))
theorem b_X3_shortenWaysBy_72 (X : CX) (Q : State → Prop) {I : Mem} {P : PMem} {O : Nat → Int64} {D : Bool} {n : Nat} {k12 : Mem → Int32 → Int32 → Int32 → Int32 → Option (Mem)} {z0 : Nat} {v1 : Int32} {v2 : Int32} {v3 : Int32} {v4 : Int32} {v5 : Int32} {r : (Mem)}  (H12 : ∀ (I : Mem) (v1 : Int32) (v2 : Int32) (v3 : Int32) (v4 : Int32), k12 I v1 v2 v3 v4 = some r → Here X cX3_shortenWaysBy RX3 6 (none) 2 n 12 [some (.inr (.inr (3, z0, 0))), some (.inl v1), some (.inl v2), some (.inl v3), some (.inl v4), none] [] I P O D n Q) (hz0 : z0 < 2) (h : f_X3_shortenWaysBy_72 k12 z0 I v1 v2 v3 v4 v5 = some r) (E : EndR X cX3_shortenWaysBy RX3 6 (none) 2 n none r P O D Q) : Here X cX3_shortenWaysBy RX3 6 (none) 2 n 72 [some (.inr (.inr (3, z0, 0))), some (.inl v1), some (.inl v2), some (.inl v3), some (.inl v4), some (.inl v5)] [] I P O D n Q := by
  unfold f_X3_shortenWaysBy_72 at h
  refine h_aload_n dX3_shortenWaysBy_72 rfl ?_
  refine g_X3_16 (by omega) dX3_shortenWaysBy_73 ?_
  refine h_iload_n dX3_shortenWaysBy_76 rfl ?_
  obtain ⟨g1, h⟩ := gd_some h
  refine ag_29 (by omega) v2.toNatClampNeg rfl dX3_shortenWaysBy_77 g1 ?_
  have w1 := inb_lt g1
  refine h_iload dX3_shortenWaysBy_78 rfl ?_
  refine h_iload_n dX3_shortenWaysBy_80 rfl ?_
  refine h_iload dX3_shortenWaysBy_81 rfl ?_
  refine h_iadd dX3_shortenWaysBy_83 ?_
  obtain ⟨g2, h⟩ := gd_some h
  obtain ⟨I1', e1, h⟩ := bnd_some h
  refine as_30 (by omega) (by omega) v4.toNatClampNeg rfl dX3_shortenWaysBy_84 g2 ?_
  refine h_nmI e1 ?_
  refine h_iinc (1 : Int32) dX3_shortenWaysBy_85 rfl k_iinc_1 (by decide) rfl ?_
  refine h_goto (tgt := 12) dX3_shortenWaysBy_88 (by decide) ?_
  exact h_mask [true, true, true, true, true, false] (H12 _ _ _ _ _ h)
def f_X3_shortenWaysBy_12  (z0 : Nat) : Nat → Mem → Int32 → Int32 → Int32 → Int32 → Option (Mem)
  | 0, _, _, _, _, _ => none
  | fu + 1, I, v1, v2, v3, v4 =>
    if (I 3 z0 0 0) ≤ v4 then (some I) else (if v3 = (-1 : Int32) then (some I) else (gd (inb v1 9) <|
    gd (inb v4 9) <|
    bnd (I 30 z0 v1.toNatClampNeg v4.toNatClampNeg) fun x1 =>
    if x1 = (-1 : Int32) then ((f_X3_shortenWaysBy_12 z0 fu) I v1 v2 v3 (v4 + (1 : Int32))) else (gd (inb v2 9) <|
    if (I 30 z0 v2.toNatClampNeg v4.toNatClampNeg) = (-1 : Int32) then (f_X3_shortenWaysBy_72 (f_X3_shortenWaysBy_12 z0 fu) z0 I v1 v2 v3 v4 x1) else (if (I 30 z0 v2.toNatClampNeg v4.toNatClampNeg) ≤ (v3 + x1) then ((f_X3_shortenWaysBy_12 z0 fu) I v1 v2 v3 (v4 + (1 : Int32))) else (f_X3_shortenWaysBy_72 (f_X3_shortenWaysBy_12 z0 fu) z0 I v1 v2 v3 v4 x1)))))
theorem b_X3_shortenWaysBy_12 (X : CX) (Q : State → Prop) {P : PMem} {O : Nat → Int64} {D : Bool} {n : Nat} {z0 : Nat} {r : (Mem)}  (hz0 : z0 < 2) : ∀ (fu : Nat) {I : Mem} {v1 : Int32} {v2 : Int32} {v3 : Int32} {v4 : Int32}, f_X3_shortenWaysBy_12 z0 fu I v1 v2 v3 v4 = some r → EndR X cX3_shortenWaysBy RX3 6 (none) 2 n none r P O D Q → Here X cX3_shortenWaysBy RX3 6 (none) 2 n 12 [some (.inr (.inr (3, z0, 0))), some (.inl v1), some (.inl v2), some (.inl v3), some (.inl v4), none] [] I P O D n Q := by
  intro fu
  induction fu with
  | zero => intro I v1 v2 v3 v4 h E; cases h
  | succ fu ih =>
  intro I v1 v2 v3 v4 h E
  have H12 : ∀ (I : Mem) (v1 : Int32) (v2 : Int32) (v3 : Int32) (v4 : Int32), f_X3_shortenWaysBy_12 z0 fu I v1 v2 v3 v4 = some r → Here X cX3_shortenWaysBy RX3 6 (none) 2 n 12 [some (.inr (.inr (3, z0, 0))), some (.inl v1), some (.inl v2), some (.inl v3), some (.inl v4), none] [] I P O D n Q := fun _ _ _ _ _ b => ih b E
  simp only [f_X3_shortenWaysBy_12] at h
  refine h_iload dX3_shortenWaysBy_12 rfl ?_
  refine h_aload_n dX3_shortenWaysBy_14 rfl ?_
  refine g_X3_48 (by omega) dX3_shortenWaysBy_15 ?_
  refine h_icmp_ge (tgt := 91) dX3_shortenWaysBy_18 (by decide) (fun q1 => ?_) (fun q1 => ?_)
  · rw [if_pos q1] at h
    cases h
    exact h_vret dX3_shortenWaysBy_91 rfl E
  · rw [if_neg q1] at h
    refine h_iload_n dX3_shortenWaysBy_21 rfl ?_
    refine h_iconst (-1 : Int32) dX3_shortenWaysBy_22 k_iconst_m1 ?_
    refine h_icmp_eq (tgt := 91) dX3_shortenWaysBy_23 (by decide) (fun q2 => ?_) (fun q2 => ?_)
    · rw [if_pos q2] at h
      cases h
      exact h_vret dX3_shortenWaysBy_91 rfl E
    · rw [if_neg q2] at h
      refine h_aload_n dX3_shortenWaysBy_26 rfl ?_
      refine g_X3_16 (by omega) dX3_shortenWaysBy_27 ?_
      refine h_iload_n dX3_shortenWaysBy_30 rfl ?_
      obtain ⟨g1, h⟩ := gd_some h
      refine ag_29 (by omega) v1.toNatClampNeg rfl dX3_shortenWaysBy_31 g1 ?_
      have w1 := inb_lt g1
      refine h_iload dX3_shortenWaysBy_32 rfl ?_
      obtain ⟨g2, h⟩ := gd_some h
      refine al_30 (by omega) (by omega) v4.toNatClampNeg rfl dX3_shortenWaysBy_34 g2 ?_
      obtain ⟨x1, e1, h⟩ := bnd_some h
      refine h_nmv e1 ?_
      refine h_istore dX3_shortenWaysBy_35 (by decide) rfl ?_
      refine h_iload dX3_shortenWaysBy_37 rfl ?_
      refine h_iconst (-1 : Int32) dX3_shortenWaysBy_39 k_iconst_m1 ?_
      refine h_icmp_eq (tgt := 85) dX3_shortenWaysBy_40 (by decide) (fun q3 => ?_) (fun q3 => ?_)
      · rw [if_pos q3] at h
        refine h_iinc (1 : Int32) dX3_shortenWaysBy_85 rfl k_iinc_1 (by decide) rfl ?_
        refine h_goto (tgt := 12) dX3_shortenWaysBy_88 (by decide) ?_
        exact h_mask [true, true, true, true, true, false] (H12 _ _ _ _ _ h)
      · rw [if_neg q3] at h
        refine h_aload_n dX3_shortenWaysBy_43 rfl ?_
        refine g_X3_16 (by omega) dX3_shortenWaysBy_44 ?_
        refine h_iload_n dX3_shortenWaysBy_47 rfl ?_
        obtain ⟨g3, h⟩ := gd_some h
        refine ag_29 (by omega) v2.toNatClampNeg rfl dX3_shortenWaysBy_48 g3 ?_
        have w2 := inb_lt g3
        refine h_iload dX3_shortenWaysBy_49 rfl ?_
        refine al_30 (by omega) (by omega) v4.toNatClampNeg rfl dX3_shortenWaysBy_51 g2 ?_
        refine h_iconst (-1 : Int32) dX3_shortenWaysBy_52 k_iconst_m1 ?_
        refine h_icmp_eq (tgt := 72) dX3_shortenWaysBy_53 (by decide) (fun q4 => ?_) (fun q4 => ?_)
        · rw [if_pos q4] at h
          exact (b_X3_shortenWaysBy_72 X Q H12 hz0  h E)
        · rw [if_neg q4] at h
          refine h_iload_n dX3_shortenWaysBy_56 rfl ?_
          refine h_iload dX3_shortenWaysBy_57 rfl ?_
          refine h_iadd dX3_shortenWaysBy_59 ?_
          refine h_aload_n dX3_shortenWaysBy_60 rfl ?_
          refine g_X3_16 (by omega) dX3_shortenWaysBy_61 ?_
          refine h_iload_n dX3_shortenWaysBy_64 rfl ?_
          refine ag_29 (by omega) v2.toNatClampNeg rfl dX3_shortenWaysBy_65 g3 ?_
          refine h_iload dX3_shortenWaysBy_66 rfl ?_
          refine al_30 (by omega) (by omega) v4.toNatClampNeg rfl dX3_shortenWaysBy_68 g2 ?_
          refine h_icmp_ge (tgt := 85) dX3_shortenWaysBy_69 (by decide) (fun q5 => ?_) (fun q5 => ?_)
          · rw [if_pos q5] at h
            refine h_iinc (1 : Int32) dX3_shortenWaysBy_85 rfl k_iinc_1 (by decide) rfl ?_
            refine h_goto (tgt := 12) dX3_shortenWaysBy_88 (by decide) ?_
            exact h_mask [true, true, true, true, true, false] (H12 _ _ _ _ _ h)
          · rw [if_neg q5] at h
            exact (b_X3_shortenWaysBy_72 X Q H12 hz0  h E)
def f_X3_shortenWaysBy  (z0 : Nat) (I : Mem) (v1 : Int32) (v2 : Int32) : Option (Mem) :=
  gd (inb v2 9) <|
  gd (inb v1 9) <|
  bnd (I 30 z0 v2.toNatClampNeg v1.toNatClampNeg) fun x1 =>
  f_X3_shortenWaysBy_12 z0 FU I v1 v2 x1 (0 : Int32)
theorem b_X3_shortenWaysBy (X : CX) (Q : State → Prop) {I : Mem} {P : PMem} {O : Nat → Int64} {D : Bool} {n : Nat} {z0 : Nat} {v1 : Int32} {v2 : Int32} {r : (Mem)}  (hz0 : z0 < 2) (h : f_X3_shortenWaysBy z0 I v1 v2 = some r) (E : EndR X cX3_shortenWaysBy RX3 6 (none) 2 n none r P O D Q) : Here X cX3_shortenWaysBy RX3 6 (none) 2 n 0 [some (.inr (.inr (3, z0, 0))), some (.inl v1), some (.inl v2), none, none, none] [] I P O D n Q := by
  unfold f_X3_shortenWaysBy at h
  refine h_aload_n dX3_shortenWaysBy_0 rfl ?_
  refine g_X3_16 (by omega) dX3_shortenWaysBy_1 ?_
  refine h_iload_n dX3_shortenWaysBy_4 rfl ?_
  obtain ⟨g1, h⟩ := gd_some h
  refine ag_29 (by omega) v2.toNatClampNeg rfl dX3_shortenWaysBy_5 g1 ?_
  have w1 := inb_lt g1
  refine h_iload_n dX3_shortenWaysBy_6 rfl ?_
  obtain ⟨g2, h⟩ := gd_some h
  refine al_30 (by omega) (by omega) v1.toNatClampNeg rfl dX3_shortenWaysBy_7 g2 ?_
  obtain ⟨x1, e1, h⟩ := bnd_some h
  refine h_nmv e1 ?_
  refine h_istore_n dX3_shortenWaysBy_8 (by decide) rfl ?_
  refine h_iconst (0 : Int32) dX3_shortenWaysBy_9 k_iconst_0 ?_
  refine h_istore dX3_shortenWaysBy_10 (by decide) rfl ?_
  exact (b_X3_shortenWaysBy_12 X Q hz0 FU  h E)
theorem m_X3_shortenWaysBy {I : Mem} {P : PMem} {O : Nat → Int64} {D : Bool} {n : Nat} {z0 : Nat} {v1 : Int32} {v2 : Int32} {r : (Mem)} (hz0 : z0 < 2) (h : f_X3_shortenWaysBy z0 I v1 v2 = some r) : MethR yX3_shortenWaysBy cX3_shortenWaysBy 6 (none) 2 [.inr (.inr (3, z0, 0)), .inl v1, .inl v2] I P O D n none r P O D n := meth_R (Nat.le_refl _) (by decide) rfl (Nat.le_of_ble_eq_true rfl) rfl (fun X Q E => b_X3_shortenWaysBy X Q hz0 h E)
