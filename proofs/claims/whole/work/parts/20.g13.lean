theorem dX8_another_0 : decode cX8_another 0 = .ok (.aload_n 0, 1) := by decide +kernel
theorem dX8_another_1 : decode cX8_another 1 = .ok (.getfield 34, 3) := by decide +kernel
theorem dX8_another_4 : decode cX8_another 4 = .ok (.bipush 7, 2) := by decide +kernel
theorem dX8_another_6 : decode cX8_another 6 = .ok (.iload_n 1, 1) := by decide +kernel
theorem dX8_another_7 : decode cX8_another 7 = .ok (.iadd, 1) := by decide +kernel
theorem dX8_another_8 : decode cX8_another 8 = .ok (.iaload, 1) := by decide +kernel
theorem dX8_another_9 : decode cX8_another 9 = .ok (.iload_n 2, 1) := by decide +kernel
theorem dX8_another_10 : decode cX8_another 10 = .ok (.if_icmp .ne 8, 3) := by decide +kernel
theorem dX8_another_13 : decode cX8_another 13 = .ok (.aload_n 0, 1) := by decide +kernel
theorem dX8_another_14 : decode cX8_another 14 = .ok (.iconst 2, 1) := by decide +kernel
theorem dX8_another_15 : decode cX8_another 15 = .ok (.invokevirtual 220, 3) := by decide +kernel
theorem dX8_another_18 : decode cX8_another 18 = .ok (.aload_n 0, 1) := by decide +kernel
theorem dX8_another_19 : decode cX8_another 19 = .ok (.getfield 199, 3) := by decide +kernel
theorem dX8_another_22 : decode cX8_another 22 = .ok (.ifCond .eq 5, 3) := by decide +kernel
theorem dX8_another_25 : decode cX8_another 25 = .ok (.iconst 0, 1) := by decide +kernel
theorem dX8_another_26 : decode cX8_another 26 = .ok (.ireturn, 1) := by decide +kernel
theorem dX8_another_27 : decode cX8_another 27 = .ok (.aload_n 0, 1) := by decide +kernel
theorem dX8_another_28 : decode cX8_another 28 = .ok (.invokevirtual 224, 3) := by decide +kernel
theorem dX8_another_31 : decode cX8_another 31 = .ok (.iconst 1, 1) := by decide +kernel
theorem dX8_another_32 : decode cX8_another 32 = .ok (.ireturn, 1) := by decide +kernel
theorem dX8_readTown_0 : decode cX8_readTown 0 = .ok (.aload_n 0, 1) := by decide +kernel
theorem dX8_readTown_1 : decode cX8_readTown 1 = .ok (.iconst 0, 1) := by decide +kernel
theorem dX8_readTown_2 : decode cX8_readTown 2 = .ok (.bipush 9, 2) := by decide +kernel
theorem dX8_readTown_4 : decode cX8_readTown 4 = .ok (.invokevirtual 267, 3) := by decide +kernel
theorem dX8_readTown_7 : decode cX8_readTown 7 = .ok (.ifCond .ne 4, 3) := by decide +kernel
theorem dX8_readTown_10 : decode cX8_readTown 10 = .ok (.return_, 1) := by decide +kernel
theorem dX8_readTown_11 : decode cX8_readTown 11 = .ok (.aload_n 0, 1) := by decide +kernel
theorem dX8_readTown_12 : decode cX8_readTown 12 = .ok (.ldc_w 271, 3) := by decide +kernel
theorem dX8_readTown_15 : decode cX8_readTown 15 = .ok (.invokevirtual 213, 3) := by decide +kernel
theorem dX8_readTown_18 : decode cX8_readTown 18 = .ok (.ifCond .eq 26, 3) := by decide +kernel
theorem dX8_readTown_21 : decode cX8_readTown 21 = .ok (.aload_n 0, 1) := by decide +kernel
theorem dX8_readTown_22 : decode cX8_readTown 22 = .ok (.getfield 34, 3) := by decide +kernel
theorem dX8_readTown_25 : decode cX8_readTown 25 = .ok (.bipush 8, 2) := by decide +kernel
theorem dX8_readTown_27 : decode cX8_readTown 27 = .ok (.dup2, 1) := by decide +kernel
theorem dX8_readTown_28 : decode cX8_readTown 28 = .ok (.iaload, 1) := by decide +kernel
theorem dX8_readTown_29 : decode cX8_readTown 29 = .ok (.iconst 1, 1) := by decide +kernel
theorem dX8_readTown_30 : decode cX8_readTown 30 = .ok (.aload_n 0, 1) := by decide +kernel
theorem dX8_readTown_31 : decode cX8_readTown 31 = .ok (.getfield 34, 3) := by decide +kernel
theorem dX8_readTown_34 : decode cX8_readTown 34 = .ok (.bipush 7, 2) := by decide +kernel
theorem dX8_readTown_36 : decode cX8_readTown 36 = .ok (.iaload, 1) := by decide +kernel
theorem dX8_readTown_37 : decode cX8_readTown 37 = .ok (.ishl, 1) := by decide +kernel
theorem dX8_readTown_38 : decode cX8_readTown 38 = .ok (.ior, 1) := by decide +kernel
theorem dX8_readTown_39 : decode cX8_readTown 39 = .ok (.iastore, 1) := by decide +kernel
theorem dX8_readTown_40 : decode cX8_readTown 40 = .ok (.aload_n 0, 1) := by decide +kernel
theorem dX8_readTown_41 : decode cX8_readTown 41 = .ok (.invokevirtual 224, 3) := by decide +kernel
theorem dX8_readTown_44 : decode cX8_readTown 44 = .ok (.aload_n 0, 1) := by decide +kernel
theorem dX8_readTown_45 : decode cX8_readTown 45 = .ok (.getfield 34, 3) := by decide +kernel
theorem dX8_readTown_48 : decode cX8_readTown 48 = .ok (.bipush 7, 2) := by decide +kernel
theorem dX8_readTown_50 : decode cX8_readTown 50 = .ok (.dup2, 1) := by decide +kernel
theorem dX8_readTown_51 : decode cX8_readTown 51 = .ok (.iaload, 1) := by decide +kernel
theorem dX8_readTown_52 : decode cX8_readTown 52 = .ok (.iconst 1, 1) := by decide +kernel
theorem dX8_readTown_53 : decode cX8_readTown 53 = .ok (.iadd, 1) := by decide +kernel
theorem dX8_readTown_54 : decode cX8_readTown 54 = .ok (.iastore, 1) := by decide +kernel
theorem dX8_readTown_55 : decode cX8_readTown 55 = .ok (.return_, 1) := by decide +kernel
theorem dX8_couple_0 : decode cX8_couple 0 = .ok (.bipush 9, 2) := by decide +kernel
theorem dX8_couple_2 : decode cX8_couple 2 = .ok (.iload_n 0, 1) := by decide +kernel
theorem dX8_couple_3 : decode cX8_couple 3 = .ok (.imul, 1) := by decide +kernel
theorem dX8_couple_4 : decode cX8_couple 4 = .ok (.iload_n 1, 1) := by decide +kernel
theorem dX8_couple_5 : decode cX8_couple 5 = .ok (.iadd, 1) := by decide +kernel
theorem dX8_couple_6 : decode cX8_couple 6 = .ok (.ireturn, 1) := by decide +kernel
theorem dX8_readRoad_0 : decode cX8_readRoad 0 = .ok (.aload_n 0, 1) := by decide +kernel
theorem dX8_readRoad_1 : decode cX8_readRoad 1 = .ok (.iconst 2, 1) := by decide +kernel
theorem dX8_readRoad_2 : decode cX8_readRoad 2 = .ok (.bipush 14, 2) := by decide +kernel
theorem dX8_readRoad_4 : decode cX8_readRoad 4 = .ok (.invokevirtual 267, 3) := by decide +kernel
theorem dX8_readRoad_7 : decode cX8_readRoad 7 = .ok (.ifCond .ne 4, 3) := by decide +kernel
theorem dX8_readRoad_10 : decode cX8_readRoad 10 = .ok (.return_, 1) := by decide +kernel
theorem dX8_readRoad_11 : decode cX8_readRoad 11 = .ok (.aload_n 0, 1) := by decide +kernel
theorem dX8_readRoad_12 : decode cX8_readRoad 12 = .ok (.invokevirtual 273, 3) := by decide +kernel
theorem dX8_readRoad_15 : decode cX8_readRoad 15 = .ok (.istore_n 1, 1) := by decide +kernel
theorem dX8_readRoad_16 : decode cX8_readRoad 16 = .ok (.aload_n 0, 1) := by decide +kernel
theorem dX8_readRoad_17 : decode cX8_readRoad 17 = .ok (.getfield 199, 3) := by decide +kernel
theorem dX8_readRoad_20 : decode cX8_readRoad 20 = .ok (.ifCond .ne 7, 3) := by decide +kernel
theorem dX8_readRoad_23 : decode cX8_readRoad 23 = .ok (.aload_n 0, 1) := by decide +kernel
theorem dX8_readRoad_24 : decode cX8_readRoad 24 = .ok (.invokevirtual 224, 3) := by decide +kernel
theorem dX8_readRoad_27 : decode cX8_readRoad 27 = .ok (.aload_n 0, 1) := by decide +kernel
theorem dX8_readRoad_28 : decode cX8_readRoad 28 = .ok (.invokevirtual 273, 3) := by decide +kernel
theorem dX8_readRoad_31 : decode cX8_readRoad 31 = .ok (.istore_n 2, 1) := by decide +kernel
theorem dX8_readRoad_32 : decode cX8_readRoad 32 = .ok (.bipush 81, 2) := by decide +kernel
theorem dX8_readRoad_34 : decode cX8_readRoad 34 = .ok (.istore_n 3, 1) := by decide +kernel
theorem dX8_readRoad_35 : decode cX8_readRoad 35 = .ok (.aload_n 0, 1) := by decide +kernel
theorem dX8_readRoad_36 : decode cX8_readRoad 36 = .ok (.getfield 199, 3) := by decide +kernel
theorem dX8_readRoad_39 : decode cX8_readRoad 39 = .ok (.ifCond .ne 28, 3) := by decide +kernel
theorem dX8_readRoad_42 : decode cX8_readRoad 42 = .ok (.iload_n 1, 1) := by decide +kernel
theorem dX8_readRoad_43 : decode cX8_readRoad 43 = .ok (.iload_n 2, 1) := by decide +kernel
theorem dX8_readRoad_44 : decode cX8_readRoad 44 = .ok (.if_icmp .eq 18, 3) := by decide +kernel
theorem dX8_readRoad_47 : decode cX8_readRoad 47 = .ok (.aload_n 0, 1) := by decide +kernel
theorem dX8_readRoad_48 : decode cX8_readRoad 48 = .ok (.getfield 38, 3) := by decide +kernel
theorem dX8_readRoad_51 : decode cX8_readRoad 51 = .ok (.iload_n 3, 1) := by decide +kernel
theorem dX8_readRoad_52 : decode cX8_readRoad 52 = .ok (.iload_n 1, 1) := by decide +kernel
theorem dX8_readRoad_53 : decode cX8_readRoad 53 = .ok (.iload_n 2, 1) := by decide +kernel
theorem dX8_readRoad_54 : decode cX8_readRoad 54 = .ok (.invokestatic 276, 3) := by decide +kernel
theorem dX8_readRoad_57 : decode cX8_readRoad 57 = .ok (.iadd, 1) := by decide +kernel
theorem dX8_readRoad_58 : decode cX8_readRoad 58 = .ok (.iaload, 1) := by decide +kernel
theorem dX8_readRoad_59 : decode cX8_readRoad 59 = .ok (.ifCond .le 8, 3) := by decide +kernel
theorem dX8_readRoad_62 : decode cX8_readRoad 62 = .ok (.aload_n 0, 1) := by decide +kernel
theorem dX8_readRoad_63 : decode cX8_readRoad 63 = .ok (.iconst 4, 1) := by decide +kernel
theorem dX8_readRoad_64 : decode cX8_readRoad 64 = .ok (.invokevirtual 220, 3) := by decide +kernel
theorem dX8_readRoad_67 : decode cX8_readRoad 67 = .ok (.aload_n 0, 1) := by decide +kernel
theorem dX8_readRoad_68 : decode cX8_readRoad 68 = .ok (.getfield 199, 3) := by decide +kernel
theorem dX8_readRoad_71 : decode cX8_readRoad 71 = .ok (.ifCond .ne 7, 3) := by decide +kernel
theorem dX8_readRoad_74 : decode cX8_readRoad 74 = .ok (.aload_n 0, 1) := by decide +kernel
theorem dX8_readRoad_75 : decode cX8_readRoad 75 = .ok (.invokevirtual 224, 3) := by decide +kernel
theorem dX8_readRoad_78 : decode cX8_readRoad 78 = .ok (.aload_n 0, 1) := by decide +kernel
theorem dX8_readRoad_79 : decode cX8_readRoad 79 = .ok (.iconst 1, 1) := by decide +kernel
theorem dX8_readRoad_80 : decode cX8_readRoad 80 = .ok (.bipush 9, 2) := by decide +kernel
theorem dX8_readRoad_82 : decode cX8_readRoad 82 = .ok (.invokevirtual 230, 3) := by decide +kernel
theorem dX8_readRoad_85 : decode cX8_readRoad 85 = .ok (.istore 4, 2) := by decide +kernel
theorem dX8_readRoad_87 : decode cX8_readRoad 87 = .ok (.aload_n 0, 1) := by decide +kernel
theorem dX8_readRoad_88 : decode cX8_readRoad 88 = .ok (.getfield 199, 3) := by decide +kernel
theorem dX8_readRoad_91 : decode cX8_readRoad 91 = .ok (.ifCond .eq 4, 3) := by decide +kernel
theorem dX8_readRoad_94 : decode cX8_readRoad 94 = .ok (.return_, 1) := by decide +kernel
theorem dX8_readRoad_95 : decode cX8_readRoad 95 = .ok (.aload_n 0, 1) := by decide +kernel
theorem dX8_readRoad_96 : decode cX8_readRoad 96 = .ok (.getfield 38, 3) := by decide +kernel
theorem dX8_readRoad_99 : decode cX8_readRoad 99 = .ok (.iload_n 3, 1) := by decide +kernel
theorem dX8_readRoad_100 : decode cX8_readRoad 100 = .ok (.iload_n 1, 1) := by decide +kernel
theorem dX8_readRoad_101 : decode cX8_readRoad 101 = .ok (.iload_n 2, 1) := by decide +kernel
theorem dX8_readRoad_102 : decode cX8_readRoad 102 = .ok (.invokestatic 276, 3) := by decide +kernel
theorem dX8_readRoad_105 : decode cX8_readRoad 105 = .ok (.iadd, 1) := by decide +kernel
theorem dX8_readRoad_106 : decode cX8_readRoad 106 = .ok (.iload 4, 2) := by decide +kernel
theorem dX8_readRoad_108 : decode cX8_readRoad 108 = .ok (.iastore, 1) := by decide +kernel
theorem dX8_readRoad_109 : decode cX8_readRoad 109 = .ok (.aload_n 0, 1) := by decide +kernel
theorem dX8_readRoad_110 : decode cX8_readRoad 110 = .ok (.getfield 38, 3) := by decide +kernel
theorem dX8_readRoad_113 : decode cX8_readRoad 113 = .ok (.iload_n 3, 1) := by decide +kernel
theorem dX8_readRoad_114 : decode cX8_readRoad 114 = .ok (.iload_n 2, 1) := by decide +kernel
theorem dX8_readRoad_115 : decode cX8_readRoad 115 = .ok (.iload_n 1, 1) := by decide +kernel
theorem dX8_readRoad_116 : decode cX8_readRoad 116 = .ok (.invokestatic 276, 3) := by decide +kernel
theorem dX8_readRoad_119 : decode cX8_readRoad 119 = .ok (.iadd, 1) := by decide +kernel
theorem dX8_readRoad_120 : decode cX8_readRoad 120 = .ok (.iload 4, 2) := by decide +kernel
theorem dX8_readRoad_122 : decode cX8_readRoad 122 = .ok (.iastore, 1) := by decide +kernel
theorem dX8_readRoad_123 : decode cX8_readRoad 123 = .ok (.aload_n 0, 1) := by decide +kernel
theorem dX8_readRoad_124 : decode cX8_readRoad 124 = .ok (.getfield 34, 3) := by decide +kernel
theorem dX8_readRoad_127 : decode cX8_readRoad 127 = .ok (.bipush 9, 2) := by decide +kernel
theorem dX8_readRoad_129 : decode cX8_readRoad 129 = .ok (.dup2, 1) := by decide +kernel
theorem dX8_readRoad_130 : decode cX8_readRoad 130 = .ok (.iaload, 1) := by decide +kernel
theorem dX8_readRoad_131 : decode cX8_readRoad 131 = .ok (.iconst 1, 1) := by decide +kernel
theorem dX8_readRoad_132 : decode cX8_readRoad 132 = .ok (.iadd, 1) := by decide +kernel
theorem dX8_readRoad_133 : decode cX8_readRoad 133 = .ok (.iastore, 1) := by decide +kernel
theorem dX8_readRoad_134 : decode cX8_readRoad 134 = .ok (.return_, 1) := by decide +kernel
theorem dX8_readJudge_0 : decode cX8_readJudge 0 = .ok (.aload_n 0, 1) := by decide +kernel
theorem dX8_readJudge_1 : decode cX8_readJudge 1 = .ok (.iconst 4, 1) := by decide +kernel
theorem dX8_readJudge_2 : decode cX8_readJudge 2 = .ok (.iconst 5, 1) := by decide +kernel
theorem dX8_readJudge_3 : decode cX8_readJudge 3 = .ok (.invokevirtual 267, 3) := by decide +kernel
theorem dX8_readJudge_6 : decode cX8_readJudge 6 = .ok (.ifCond .ne 4, 3) := by decide +kernel
theorem dX8_readJudge_9 : decode cX8_readJudge 9 = .ok (.return_, 1) := by decide +kernel
theorem dX8_readJudge_10 : decode cX8_readJudge 10 = .ok (.iconst 5, 1) := by decide +kernel
theorem dX8_readJudge_11 : decode cX8_readJudge 11 = .ok (.aload_n 0, 1) := by decide +kernel
theorem dX8_readJudge_12 : decode cX8_readJudge 12 = .ok (.getfield 34, 3) := by decide +kernel
theorem dX8_readJudge_15 : decode cX8_readJudge 15 = .ok (.bipush 11, 2) := by decide +kernel
theorem dX8_readJudge_17 : decode cX8_readJudge 17 = .ok (.iaload, 1) := by decide +kernel
theorem dX8_readJudge_18 : decode cX8_readJudge 18 = .ok (.iadd, 1) := by decide +kernel
theorem dX8_readJudge_19 : decode cX8_readJudge 19 = .ok (.istore_n 2, 1) := by decide +kernel
theorem dX8_readJudge_20 : decode cX8_readJudge 20 = .ok (.aload_n 0, 1) := by decide +kernel
theorem dX8_readJudge_21 : decode cX8_readJudge 21 = .ok (.getfield 41, 3) := by decide +kernel
theorem dX8_readJudge_24 : decode cX8_readJudge 24 = .ok (.iload_n 2, 1) := by decide +kernel
theorem dX8_readJudge_25 : decode cX8_readJudge 25 = .ok (.iload_n 1, 1) := by decide +kernel
theorem dX8_readJudge_26 : decode cX8_readJudge 26 = .ok (.iastore, 1) := by decide +kernel
theorem dX8_readJudge_27 : decode cX8_readJudge 27 = .ok (.aload_n 0, 1) := by decide +kernel
theorem dX8_readJudge_28 : decode cX8_readJudge 28 = .ok (.getfield 44, 3) := by decide +kernel
theorem dX8_readJudge_31 : decode cX8_readJudge 31 = .ok (.iload_n 2, 1) := by decide +kernel
theorem dX8_readJudge_32 : decode cX8_readJudge 32 = .ok (.aload_n 0, 1) := by decide +kernel
theorem dX8_readJudge_33 : decode cX8_readJudge 33 = .ok (.iconst 0, 1) := by decide +kernel
theorem dX8_readJudge_34 : decode cX8_readJudge 34 = .ok (.bipush 60, 2) := by decide +kernel
theorem dX8_readJudge_36 : decode cX8_readJudge 36 = .ok (.invokevirtual 230, 3) := by decide +kernel
theorem dX8_readJudge_39 : decode cX8_readJudge 39 = .ok (.iastore, 1) := by decide +kernel
theorem dX8_readJudge_40 : decode cX8_readJudge 40 = .ok (.aload_n 0, 1) := by decide +kernel
theorem dX8_readJudge_41 : decode cX8_readJudge 41 = .ok (.getfield 47, 3) := by decide +kernel
theorem dX8_readJudge_44 : decode cX8_readJudge 44 = .ok (.iload_n 2, 1) := by decide +kernel
theorem dX8_readJudge_45 : decode cX8_readJudge 45 = .ok (.aload_n 0, 1) := by decide +kernel
theorem dX8_readJudge_46 : decode cX8_readJudge 46 = .ok (.iconst 0, 1) := by decide +kernel
theorem dX8_readJudge_47 : decode cX8_readJudge 47 = .ok (.bipush 9, 2) := by decide +kernel
theorem dX8_readJudge_49 : decode cX8_readJudge 49 = .ok (.invokevirtual 230, 3) := by decide +kernel
theorem dX8_readJudge_52 : decode cX8_readJudge 52 = .ok (.iastore, 1) := by decide +kernel
theorem dX8_readJudge_53 : decode cX8_readJudge 53 = .ok (.iconst 0, 1) := by decide +kernel
theorem dX8_readJudge_54 : decode cX8_readJudge 54 = .ok (.istore_n 3, 1) := by decide +kernel
theorem dX8_readJudge_55 : decode cX8_readJudge 55 = .ok (.aload_n 0, 1) := by decide +kernel
theorem dX8_readJudge_56 : decode cX8_readJudge 56 = .ok (.getfield 199, 3) := by decide +kernel
theorem dX8_readJudge_59 : decode cX8_readJudge 59 = .ok (.ifCond .ne 16, 3) := by decide +kernel
theorem dX8_readJudge_62 : decode cX8_readJudge 62 = .ok (.aload_n 0, 1) := by decide +kernel
theorem dX8_readJudge_63 : decode cX8_readJudge 63 = .ok (.getfield 173, 3) := by decide +kernel
theorem dX8_readJudge_66 : decode cX8_readJudge 66 = .ok (.iconst 2, 1) := by decide +kernel
theorem dX8_readJudge_67 : decode cX8_readJudge 67 = .ok (.if_icmp .eq 8, 3) := by decide +kernel
theorem dX8_readJudge_70 : decode cX8_readJudge 70 = .ok (.aload_n 0, 1) := by decide +kernel
theorem dX8_readJudge_71 : decode cX8_readJudge 71 = .ok (.iconst 1, 1) := by decide +kernel
theorem dX8_readJudge_72 : decode cX8_readJudge 72 = .ok (.invokevirtual 220, 3) := by decide +kernel
theorem dX8_readJudge_75 : decode cX8_readJudge 75 = .ok (.aload_n 0, 1) := by decide +kernel
theorem dX8_readJudge_76 : decode cX8_readJudge 76 = .ok (.getfield 199, 3) := by decide +kernel
theorem dX8_readJudge_79 : decode cX8_readJudge 79 = .ok (.ifCond .ne 107, 3) := by decide +kernel
theorem dX8_readJudge_82 : decode cX8_readJudge 82 = .ok (.aload_n 0, 1) := by decide +kernel
theorem dX8_readJudge_83 : decode cX8_readJudge 83 = .ok (.getfield 173, 3) := by decide +kernel
theorem dX8_readJudge_86 : decode cX8_readJudge 86 = .ok (.iconst 2, 1) := by decide +kernel
theorem dX8_readJudge_87 : decode cX8_readJudge 87 = .ok (.if_icmp .ne 99, 3) := by decide +kernel
theorem dX8_readJudge_90 : decode cX8_readJudge 90 = .ok (.iload_n 3, 1) := by decide +kernel
theorem dX8_readJudge_91 : decode cX8_readJudge 91 = .ok (.bipush 7, 2) := by decide +kernel
theorem dX8_readJudge_93 : decode cX8_readJudge 93 = .ok (.if_icmp .ne 8, 3) := by decide +kernel
theorem dX8_readJudge_96 : decode cX8_readJudge 96 = .ok (.aload_n 0, 1) := by decide +kernel
theorem dX8_readJudge_97 : decode cX8_readJudge 97 = .ok (.iconst 2, 1) := by decide +kernel
theorem dX8_readJudge_98 : decode cX8_readJudge 98 = .ok (.invokevirtual 220, 3) := by decide +kernel
theorem dX8_readJudge_101 : decode cX8_readJudge 101 = .ok (.aload_n 0, 1) := by decide +kernel
theorem dX8_readJudge_102 : decode cX8_readJudge 102 = .ok (.invokevirtual 273, 3) := by decide +kernel
theorem dX8_readJudge_105 : decode cX8_readJudge 105 = .ok (.istore 4, 2) := by decide +kernel
theorem dX8_readJudge_107 : decode cX8_readJudge 107 = .ok (.aload_n 0, 1) := by decide +kernel
theorem dX8_readJudge_108 : decode cX8_readJudge 108 = .ok (.getfield 199, 3) := by decide +kernel
theorem dX8_readJudge_111 : decode cX8_readJudge 111 = .ok (.ifCond .ne 42, 3) := by decide +kernel
theorem dX8_readJudge_114 : decode cX8_readJudge 114 = .ok (.iload_n 3, 1) := by decide +kernel
theorem dX8_readJudge_115 : decode cX8_readJudge 115 = .ok (.ifCond .le 38, 3) := by decide +kernel
theorem dX8_readJudge_118 : decode cX8_readJudge 118 = .ok (.aload_n 0, 1) := by decide +kernel
theorem dX8_readJudge_119 : decode cX8_readJudge 119 = .ok (.getfield 38, 3) := by decide +kernel
theorem dX8_readJudge_122 : decode cX8_readJudge 122 = .ok (.bipush 81, 2) := by decide +kernel
theorem dX8_readJudge_124 : decode cX8_readJudge 124 = .ok (.aload_n 0, 1) := by decide +kernel
theorem dX8_readJudge_125 : decode cX8_readJudge 125 = .ok (.getfield 52, 3) := by decide +kernel
theorem dX8_readJudge_128 : decode cX8_readJudge 128 = .ok (.bipush 7, 2) := by decide +kernel
theorem dX8_readJudge_130 : decode cX8_readJudge 130 = .ok (.iload_n 2, 1) := by decide +kernel
theorem dX8_readJudge_131 : decode cX8_readJudge 131 = .ok (.imul, 1) := by decide +kernel
theorem dX8_readJudge_132 : decode cX8_readJudge 132 = .ok (.iload_n 3, 1) := by decide +kernel
theorem dX8_readJudge_133 : decode cX8_readJudge 133 = .ok (.iadd, 1) := by decide +kernel
theorem dX8_readJudge_134 : decode cX8_readJudge 134 = .ok (.iconst 1, 1) := by decide +kernel
theorem dX8_readJudge_135 : decode cX8_readJudge 135 = .ok (.isub, 1) := by decide +kernel
theorem dX8_readJudge_136 : decode cX8_readJudge 136 = .ok (.iaload, 1) := by decide +kernel
theorem dX8_readJudge_137 : decode cX8_readJudge 137 = .ok (.iload 4, 2) := by decide +kernel
theorem dX8_readJudge_139 : decode cX8_readJudge 139 = .ok (.invokestatic 276, 3) := by decide +kernel
theorem dX8_readJudge_142 : decode cX8_readJudge 142 = .ok (.iadd, 1) := by decide +kernel
theorem dX8_readJudge_143 : decode cX8_readJudge 143 = .ok (.iaload, 1) := by decide +kernel
theorem dX8_readJudge_144 : decode cX8_readJudge 144 = .ok (.ifCond .ne 9, 3) := by decide +kernel
theorem dX8_readJudge_147 : decode cX8_readJudge 147 = .ok (.aload_n 0, 1) := by decide +kernel
theorem dX8_readJudge_148 : decode cX8_readJudge 148 = .ok (.bipush 6, 2) := by decide +kernel
theorem dX8_readJudge_150 : decode cX8_readJudge 150 = .ok (.invokevirtual 220, 3) := by decide +kernel
theorem dX8_readJudge_153 : decode cX8_readJudge 153 = .ok (.aload_n 0, 1) := by decide +kernel
theorem dX8_readJudge_154 : decode cX8_readJudge 154 = .ok (.getfield 199, 3) := by decide +kernel
theorem dX8_readJudge_157 : decode cX8_readJudge 157 = .ok (.ifCond .eq 6, 3) := by decide +kernel
theorem dX8_readJudge_160 : decode cX8_readJudge 160 = .ok (.goto (-85), 3) := by decide +kernel
theorem dX8_readJudge_163 : decode cX8_readJudge 163 = .ok (.aload_n 0, 1) := by decide +kernel
theorem dX8_readJudge_164 : decode cX8_readJudge 164 = .ok (.getfield 52, 3) := by decide +kernel
theorem dX8_readJudge_167 : decode cX8_readJudge 167 = .ok (.bipush 7, 2) := by decide +kernel
theorem dX8_readJudge_169 : decode cX8_readJudge 169 = .ok (.iload_n 2, 1) := by decide +kernel
theorem dX8_readJudge_170 : decode cX8_readJudge 170 = .ok (.imul, 1) := by decide +kernel
theorem dX8_readJudge_171 : decode cX8_readJudge 171 = .ok (.iload_n 3, 1) := by decide +kernel
theorem dX8_readJudge_172 : decode cX8_readJudge 172 = .ok (.iadd, 1) := by decide +kernel
theorem dX8_readJudge_173 : decode cX8_readJudge 173 = .ok (.iload 4, 2) := by decide +kernel
theorem dX8_readJudge_175 : decode cX8_readJudge 175 = .ok (.iastore, 1) := by decide +kernel
theorem dX8_readJudge_176 : decode cX8_readJudge 176 = .ok (.iinc 3 1, 3) := by decide +kernel
theorem dX8_readJudge_179 : decode cX8_readJudge 179 = .ok (.aload_n 0, 1) := by decide +kernel
theorem dX8_readJudge_180 : decode cX8_readJudge 180 = .ok (.invokevirtual 224, 3) := by decide +kernel
theorem dX8_readJudge_183 : decode cX8_readJudge 183 = .ok (.goto (-108), 3) := by decide +kernel
theorem dX8_readJudge_186 : decode cX8_readJudge 186 = .ok (.aload_n 0, 1) := by decide +kernel
theorem dX8_readJudge_187 : decode cX8_readJudge 187 = .ok (.getfield 49, 3) := by decide +kernel
theorem dX8_readJudge_190 : decode cX8_readJudge 190 = .ok (.iload_n 2, 1) := by decide +kernel
theorem dX8_readJudge_191 : decode cX8_readJudge 191 = .ok (.iload_n 3, 1) := by decide +kernel
theorem dX8_readJudge_192 : decode cX8_readJudge 192 = .ok (.iastore, 1) := by decide +kernel
theorem dX8_readJudge_193 : decode cX8_readJudge 193 = .ok (.aload_n 0, 1) := by decide +kernel
theorem dX8_readJudge_194 : decode cX8_readJudge 194 = .ok (.getfield 34, 3) := by decide +kernel
theorem dX8_readJudge_197 : decode cX8_readJudge 197 = .ok (.bipush 11, 2) := by decide +kernel
theorem dX8_readJudge_199 : decode cX8_readJudge 199 = .ok (.dup2, 1) := by decide +kernel
theorem dX8_readJudge_200 : decode cX8_readJudge 200 = .ok (.iaload, 1) := by decide +kernel
theorem dX8_readJudge_201 : decode cX8_readJudge 201 = .ok (.iconst 1, 1) := by decide +kernel
theorem dX8_readJudge_202 : decode cX8_readJudge 202 = .ok (.iadd, 1) := by decide +kernel
theorem dX8_readJudge_203 : decode cX8_readJudge 203 = .ok (.iastore, 1) := by decide +kernel
theorem dX8_readJudge_204 : decode cX8_readJudge 204 = .ok (.return_, 1) := by decide +kernel
theorem dX8_readCase_0 : decode cX8_readCase 0 = .ok (.aload_n 0, 1) := by decide +kernel
theorem dX8_readCase_1 : decode cX8_readCase 1 = .ok (.iconst 5, 1) := by decide +kernel
theorem dX8_readCase_2 : decode cX8_readCase 2 = .ok (.bipush 6, 2) := by decide +kernel
theorem dX8_readCase_4 : decode cX8_readCase 4 = .ok (.invokevirtual 267, 3) := by decide +kernel
theorem dX8_readCase_7 : decode cX8_readCase 7 = .ok (.ifCond .ne 4, 3) := by decide +kernel
theorem dX8_readCase_10 : decode cX8_readCase 10 = .ok (.return_, 1) := by decide +kernel
theorem dX8_readCase_11 : decode cX8_readCase 11 = .ok (.bipush 9, 2) := by decide +kernel
theorem dX8_readCase_13 : decode cX8_readCase 13 = .ok (.bipush 6, 2) := by decide +kernel
theorem dX8_readCase_15 : decode cX8_readCase 15 = .ok (.aload_n 0, 1) := by decide +kernel
theorem dX8_readCase_16 : decode cX8_readCase 16 = .ok (.getfield 34, 3) := by decide +kernel
theorem dX8_readCase_19 : decode cX8_readCase 19 = .ok (.bipush 12, 2) := by decide +kernel
theorem dX8_readCase_21 : decode cX8_readCase 21 = .ok (.iaload, 1) := by decide +kernel
theorem dX8_readCase_22 : decode cX8_readCase 22 = .ok (.iadd, 1) := by decide +kernel
theorem dX8_readCase_23 : decode cX8_readCase 23 = .ok (.imul, 1) := by decide +kernel
theorem dX8_readCase_24 : decode cX8_readCase 24 = .ok (.istore_n 1, 1) := by decide +kernel
theorem dX8_readCase_25 : decode cX8_readCase 25 = .ok (.iconst 0, 1) := by decide +kernel
theorem dX8_readCase_26 : decode cX8_readCase 26 = .ok (.istore_n 2, 1) := by decide +kernel
theorem dX8_readCase_27 : decode cX8_readCase 27 = .ok (.iload_n 2, 1) := by decide +kernel
theorem dX8_readCase_28 : decode cX8_readCase 28 = .ok (.bipush 9, 2) := by decide +kernel
theorem dX8_readCase_30 : decode cX8_readCase 30 = .ok (.if_icmp .ge 18, 3) := by decide +kernel
theorem dX8_readCase_33 : decode cX8_readCase 33 = .ok (.aload_n 0, 1) := by decide +kernel
theorem dX8_readCase_34 : decode cX8_readCase 34 = .ok (.getfield 55, 3) := by decide +kernel
theorem dX8_readCase_37 : decode cX8_readCase 37 = .ok (.iload_n 1, 1) := by decide +kernel
theorem dX8_readCase_38 : decode cX8_readCase 38 = .ok (.iload_n 2, 1) := by decide +kernel
theorem dX8_readCase_39 : decode cX8_readCase 39 = .ok (.iadd, 1) := by decide +kernel
theorem dX8_readCase_40 : decode cX8_readCase 40 = .ok (.iconst (-1), 1) := by decide +kernel
theorem dX8_readCase_41 : decode cX8_readCase 41 = .ok (.iastore, 1) := by decide +kernel
theorem dX8_readCase_42 : decode cX8_readCase 42 = .ok (.iinc 2 1, 3) := by decide +kernel
theorem dX8_readCase_45 : decode cX8_readCase 45 = .ok (.goto (-18), 3) := by decide +kernel
theorem dX8_readCase_48 : decode cX8_readCase 48 = .ok (.iconst 0, 1) := by decide +kernel
theorem dX8_readCase_49 : decode cX8_readCase 49 = .ok (.istore_n 2, 1) := by decide +kernel
theorem dX8_readCase_50 : decode cX8_readCase 50 = .ok (.aload_n 0, 1) := by decide +kernel
theorem dX8_readCase_51 : decode cX8_readCase 51 = .ok (.getfield 199, 3) := by decide +kernel
theorem dX8_readCase_54 : decode cX8_readCase 54 = .ok (.ifCond .ne 16, 3) := by decide +kernel
theorem dX8_readCase_57 : decode cX8_readCase 57 = .ok (.aload_n 0, 1) := by decide +kernel
theorem dX8_readCase_58 : decode cX8_readCase 58 = .ok (.getfield 173, 3) := by decide +kernel
theorem dX8_readCase_61 : decode cX8_readCase 61 = .ok (.iconst 2, 1) := by decide +kernel
theorem dX8_readCase_62 : decode cX8_readCase 62 = .ok (.if_icmp .eq 8, 3) := by decide +kernel
theorem dX8_readCase_65 : decode cX8_readCase 65 = .ok (.aload_n 0, 1) := by decide +kernel
theorem dX8_readCase_66 : decode cX8_readCase 66 = .ok (.iconst 1, 1) := by decide +kernel
theorem dX8_readCase_67 : decode cX8_readCase 67 = .ok (.invokevirtual 220, 3) := by decide +kernel
theorem dX8_readCase_70 : decode cX8_readCase 70 = .ok (.aload_n 0, 1) := by decide +kernel
theorem dX8_readCase_71 : decode cX8_readCase 71 = .ok (.getfield 199, 3) := by decide +kernel
theorem dX8_readCase_74 : decode cX8_readCase 74 = .ok (.ifCond .ne 97, 3) := by decide +kernel
theorem dX8_readCase_77 : decode cX8_readCase 77 = .ok (.aload_n 0, 1) := by decide +kernel
theorem dX8_readCase_78 : decode cX8_readCase 78 = .ok (.getfield 173, 3) := by decide +kernel
theorem dX8_readCase_81 : decode cX8_readCase 81 = .ok (.iconst 2, 1) := by decide +kernel
theorem dX8_readCase_82 : decode cX8_readCase 82 = .ok (.if_icmp .ne 89, 3) := by decide +kernel
theorem dX8_readCase_85 : decode cX8_readCase 85 = .ok (.iload_n 2, 1) := by decide +kernel
theorem dX8_readCase_86 : decode cX8_readCase 86 = .ok (.bipush 6, 2) := by decide +kernel
theorem dX8_readCase_88 : decode cX8_readCase 88 = .ok (.if_icmp .ne 8, 3) := by decide +kernel
theorem dX8_readCase_91 : decode cX8_readCase 91 = .ok (.aload_n 0, 1) := by decide +kernel
theorem dX8_readCase_92 : decode cX8_readCase 92 = .ok (.iconst 2, 1) := by decide +kernel
theorem dX8_readCase_93 : decode cX8_readCase 93 = .ok (.invokevirtual 220, 3) := by decide +kernel
theorem dX8_readCase_96 : decode cX8_readCase 96 = .ok (.aload_n 0, 1) := by decide +kernel
theorem dX8_readCase_97 : decode cX8_readCase 97 = .ok (.invokevirtual 273, 3) := by decide +kernel
theorem dX8_readCase_100 : decode cX8_readCase 100 = .ok (.istore_n 3, 1) := by decide +kernel
theorem dX8_readCase_101 : decode cX8_readCase 101 = .ok (.aload_n 0, 1) := by decide +kernel
theorem dX8_readCase_102 : decode cX8_readCase 102 = .ok (.getfield 199, 3) := by decide +kernel
theorem dX8_readCase_105 : decode cX8_readCase 105 = .ok (.ifCond .ne 20, 3) := by decide +kernel
theorem dX8_readCase_108 : decode cX8_readCase 108 = .ok (.aload_n 0, 1) := by decide +kernel
theorem dX8_readCase_109 : decode cX8_readCase 109 = .ok (.getfield 55, 3) := by decide +kernel
theorem dX8_readCase_112 : decode cX8_readCase 112 = .ok (.iload_n 1, 1) := by decide +kernel
theorem dX8_readCase_113 : decode cX8_readCase 113 = .ok (.iload_n 3, 1) := by decide +kernel
theorem dX8_readCase_114 : decode cX8_readCase 114 = .ok (.iadd, 1) := by decide +kernel
theorem dX8_readCase_115 : decode cX8_readCase 115 = .ok (.iaload, 1) := by decide +kernel
theorem dX8_readCase_116 : decode cX8_readCase 116 = .ok (.iconst (-1), 1) := by decide +kernel
theorem dX8_readCase_117 : decode cX8_readCase 117 = .ok (.if_icmp .eq 8, 3) := by decide +kernel
theorem dX8_readCase_120 : decode cX8_readCase 120 = .ok (.aload_n 0, 1) := by decide +kernel
theorem dX8_readCase_121 : decode cX8_readCase 121 = .ok (.iconst 4, 1) := by decide +kernel
theorem dX8_readCase_122 : decode cX8_readCase 122 = .ok (.invokevirtual 220, 3) := by decide +kernel
theorem dX8_readCase_125 : decode cX8_readCase 125 = .ok (.aload_n 0, 1) := by decide +kernel
theorem dX8_readCase_126 : decode cX8_readCase 126 = .ok (.getfield 199, 3) := by decide +kernel
theorem dX8_readCase_129 : decode cX8_readCase 129 = .ok (.ifCond .ne 7, 3) := by decide +kernel
theorem dX8_readCase_132 : decode cX8_readCase 132 = .ok (.aload_n 0, 1) := by decide +kernel
theorem dX8_readCase_133 : decode cX8_readCase 133 = .ok (.invokevirtual 224, 3) := by decide +kernel
theorem dX8_readCase_136 : decode cX8_readCase 136 = .ok (.aload_n 0, 1) := by decide +kernel
theorem dX8_readCase_137 : decode cX8_readCase 137 = .ok (.iconst 0, 1) := by decide +kernel
theorem dX8_readCase_138 : decode cX8_readCase 138 = .ok (.bipush 9, 2) := by decide +kernel
theorem dX8_readCase_140 : decode cX8_readCase 140 = .ok (.invokevirtual 230, 3) := by decide +kernel
theorem dX8_readCase_143 : decode cX8_readCase 143 = .ok (.istore 4, 2) := by decide +kernel
theorem dX8_readCase_145 : decode cX8_readCase 145 = .ok (.aload_n 0, 1) := by decide +kernel
theorem dX8_readCase_146 : decode cX8_readCase 146 = .ok (.getfield 199, 3) := by decide +kernel
theorem dX8_readCase_149 : decode cX8_readCase 149 = .ok (.ifCond .eq 6, 3) := by decide +kernel
theorem dX8_readCase_152 : decode cX8_readCase 152 = .ok (.goto (-82), 3) := by decide +kernel
theorem dX8_readCase_155 : decode cX8_readCase 155 = .ok (.aload_n 0, 1) := by decide +kernel
theorem dX8_readCase_156 : decode cX8_readCase 156 = .ok (.getfield 55, 3) := by decide +kernel
theorem dX8_readCase_159 : decode cX8_readCase 159 = .ok (.iload_n 1, 1) := by decide +kernel
theorem dX8_readCase_160 : decode cX8_readCase 160 = .ok (.iload_n 3, 1) := by decide +kernel
theorem dX8_readCase_161 : decode cX8_readCase 161 = .ok (.iadd, 1) := by decide +kernel
theorem dX8_readCase_162 : decode cX8_readCase 162 = .ok (.iload 4, 2) := by decide +kernel
theorem dX8_readCase_164 : decode cX8_readCase 164 = .ok (.iastore, 1) := by decide +kernel
theorem dX8_readCase_165 : decode cX8_readCase 165 = .ok (.iinc 2 1, 3) := by decide +kernel
theorem dX8_readCase_168 : decode cX8_readCase 168 = .ok (.goto (-98), 3) := by decide +kernel
theorem dX8_readCase_171 : decode cX8_readCase 171 = .ok (.aload_n 0, 1) := by decide +kernel
theorem dX8_readCase_172 : decode cX8_readCase 172 = .ok (.getfield 34, 3) := by decide +kernel
theorem dX8_readCase_175 : decode cX8_readCase 175 = .ok (.bipush 12, 2) := by decide +kernel
theorem dX8_readCase_177 : decode cX8_readCase 177 = .ok (.dup2, 1) := by decide +kernel
theorem dX8_readCase_178 : decode cX8_readCase 178 = .ok (.iaload, 1) := by decide +kernel
theorem dX8_readCase_179 : decode cX8_readCase 179 = .ok (.iconst 1, 1) := by decide +kernel
theorem dX8_readCase_180 : decode cX8_readCase 180 = .ok (.iadd, 1) := by decide +kernel
theorem dX8_readCase_181 : decode cX8_readCase 181 = .ok (.iastore, 1) := by decide +kernel
theorem dX8_readCase_182 : decode cX8_readCase 182 = .ok (.return_, 1) := by decide +kernel
theorem dX8_readLine_0 : decode cX8_readLine 0 = .ok (.aload_n 0, 1) := by decide +kernel
theorem dX8_readLine_1 : decode cX8_readLine 1 = .ok (.ldc_w 279, 3) := by decide +kernel
theorem dX8_readLine_4 : decode cX8_readLine 4 = .ok (.invokevirtual 213, 3) := by decide +kernel
theorem dX8_readLine_7 : decode cX8_readLine 7 = .ok (.ifCond .eq 7, 3) := by decide +kernel
theorem dX8_readLine_10 : decode cX8_readLine 10 = .ok (.iconst 1, 1) := by decide +kernel
theorem dX8_readLine_11 : decode cX8_readLine 11 = .ok (.goto 18, 3) := by decide +kernel
theorem dX8_readLine_14 : decode cX8_readLine 14 = .ok (.aload_n 0, 1) := by decide +kernel
theorem dX8_readLine_15 : decode cX8_readLine 15 = .ok (.ldc_w 281, 3) := by decide +kernel
theorem dX8_readLine_18 : decode cX8_readLine 18 = .ok (.invokevirtual 213, 3) := by decide +kernel
theorem dX8_readLine_21 : decode cX8_readLine 21 = .ok (.ifCond .eq 7, 3) := by decide +kernel
theorem dX8_readLine_24 : decode cX8_readLine 24 = .ok (.iconst 2, 1) := by decide +kernel
theorem dX8_readLine_25 : decode cX8_readLine 25 = .ok (.goto 4, 3) := by decide +kernel
theorem dX8_readLine_28 : decode cX8_readLine 28 = .ok (.iconst 0, 1) := by decide +kernel
theorem dX8_readLine_29 : decode cX8_readLine 29 = .ok (.istore_n 2, 1) := by decide +kernel
theorem dX8_readLine_30 : decode cX8_readLine 30 = .ok (.aload_n 0, 1) := by decide +kernel
theorem dX8_readLine_31 : decode cX8_readLine 31 = .ok (.aload_n 0, 1) := by decide +kernel
theorem dX8_readLine_32 : decode cX8_readLine 32 = .ok (.getfield 17, 3) := by decide +kernel
theorem dX8_readLine_35 : decode cX8_readLine 35 = .ok (.invokevirtual 236, 3) := by decide +kernel
theorem dX8_readLine_38 : decode cX8_readLine 38 = .ok (.istore_n 3, 1) := by decide +kernel
theorem dX8_readLine_39 : decode cX8_readLine 39 = .ok (.iload_n 2, 1) := by decide +kernel
theorem dX8_readLine_40 : decode cX8_readLine 40 = .ok (.iload_n 1, 1) := by decide +kernel
theorem dX8_readLine_41 : decode cX8_readLine 41 = .ok (.iand, 1) := by decide +kernel
theorem dX8_readLine_42 : decode cX8_readLine 42 = .ok (.ifCond .eq 8, 3) := by decide +kernel
theorem dX8_readLine_45 : decode cX8_readLine 45 = .ok (.aload_n 0, 1) := by decide +kernel
theorem dX8_readLine_46 : decode cX8_readLine 46 = .ok (.iconst 5, 1) := by decide +kernel
theorem dX8_readLine_47 : decode cX8_readLine 47 = .ok (.invokevirtual 220, 3) := by decide +kernel
theorem dX8_readLine_50 : decode cX8_readLine 50 = .ok (.iload_n 2, 1) := by decide +kernel
theorem dX8_readLine_51 : decode cX8_readLine 51 = .ok (.ifCond .le 44, 3) := by decide +kernel
theorem dX8_readLine_54 : decode cX8_readLine 54 = .ok (.aload_n 0, 1) := by decide +kernel
theorem dX8_readLine_55 : decode cX8_readLine 55 = .ok (.getfield 199, 3) := by decide +kernel
theorem dX8_readLine_58 : decode cX8_readLine 58 = .ok (.ifCond .ne 7, 3) := by decide +kernel
theorem dX8_readLine_61 : decode cX8_readLine 61 = .ok (.aload_n 0, 1) := by decide +kernel
theorem dX8_readLine_62 : decode cX8_readLine 62 = .ok (.invokevirtual 224, 3) := by decide +kernel
theorem dX8_readLine_65 : decode cX8_readLine 65 = .ok (.iload_n 2, 1) := by decide +kernel
theorem dX8_readLine_66 : decode cX8_readLine 66 = .ok (.iconst 1, 1) := by decide +kernel
theorem dX8_readLine_67 : decode cX8_readLine 67 = .ok (.if_icmp .ne 20, 3) := by decide +kernel
theorem dX8_readLine_70 : decode cX8_readLine 70 = .ok (.aload_n 0, 1) := by decide +kernel
theorem dX8_readLine_71 : decode cX8_readLine 71 = .ok (.getfield 34, 3) := by decide +kernel
theorem dX8_readLine_74 : decode cX8_readLine 74 = .ok (.bipush 10, 2) := by decide +kernel
theorem dX8_readLine_76 : decode cX8_readLine 76 = .ok (.aload_n 0, 1) := by decide +kernel
theorem dX8_readLine_77 : decode cX8_readLine 77 = .ok (.iconst 1, 1) := by decide +kernel
theorem dX8_readLine_78 : decode cX8_readLine 78 = .ok (.bipush 40, 2) := by decide +kernel
theorem dX8_readLine_80 : decode cX8_readLine 80 = .ok (.invokevirtual 230, 3) := by decide +kernel
theorem dX8_readLine_83 : decode cX8_readLine 83 = .ok (.iastore, 1) := by decide +kernel
theorem dX8_readLine_84 : decode cX8_readLine 84 = .ok (.goto 79, 3) := by decide +kernel
theorem dX8_readLine_87 : decode cX8_readLine 87 = .ok (.aload_n 0, 1) := by decide +kernel
theorem dX8_readLine_88 : decode cX8_readLine 88 = .ok (.iconst 0, 1) := by decide +kernel
theorem dX8_readLine_89 : decode cX8_readLine 89 = .ok (.invokevirtual 243, 3) := by decide +kernel
theorem dX8_readLine_92 : decode cX8_readLine 92 = .ok (.goto 71, 3) := by decide +kernel
theorem dX8_readLine_95 : decode cX8_readLine 95 = .ok (.iload_n 3, 1) := by decide +kernel
theorem dX8_readLine_96 : decode cX8_readLine 96 = .ok (.iconst (-1), 1) := by decide +kernel
theorem dX8_readLine_97 : decode cX8_readLine 97 = .ok (.if_icmp .eq 11, 3) := by decide +kernel
theorem dX8_readLine_100 : decode cX8_readLine 100 = .ok (.aload_n 0, 1) := by decide +kernel
theorem dX8_readLine_101 : decode cX8_readLine 101 = .ok (.iload_n 3, 1) := by decide +kernel
theorem dX8_readLine_102 : decode cX8_readLine 102 = .ok (.invokevirtual 283, 3) := by decide +kernel
theorem dX8_readLine_105 : decode cX8_readLine 105 = .ok (.goto 58, 3) := by decide +kernel
theorem dX8_readLine_108 : decode cX8_readLine 108 = .ok (.aload_n 0, 1) := by decide +kernel
theorem dX8_readLine_109 : decode cX8_readLine 109 = .ok (.ldc 27, 2) := by decide +kernel
theorem dX8_readLine_111 : decode cX8_readLine 111 = .ok (.invokevirtual 213, 3) := by decide +kernel
theorem dX8_readLine_114 : decode cX8_readLine 114 = .ok (.ifCond .eq 10, 3) := by decide +kernel
theorem dX8_readLine_117 : decode cX8_readLine 117 = .ok (.aload_n 0, 1) := by decide +kernel
theorem dX8_readLine_118 : decode cX8_readLine 118 = .ok (.invokevirtual 286, 3) := by decide +kernel
theorem dX8_readLine_121 : decode cX8_readLine 121 = .ok (.goto 42, 3) := by decide +kernel
theorem dX8_readLine_124 : decode cX8_readLine 124 = .ok (.aload_n 0, 1) := by decide +kernel
theorem dX8_readLine_125 : decode cX8_readLine 125 = .ok (.ldc_w 289, 3) := by decide +kernel
theorem dX8_readLine_128 : decode cX8_readLine 128 = .ok (.invokevirtual 213, 3) := by decide +kernel
theorem dX8_readLine_131 : decode cX8_readLine 131 = .ok (.ifCond .eq 10, 3) := by decide +kernel
theorem dX8_readLine_134 : decode cX8_readLine 134 = .ok (.aload_n 0, 1) := by decide +kernel
theorem dX8_readLine_135 : decode cX8_readLine 135 = .ok (.invokevirtual 290, 3) := by decide +kernel
theorem dX8_readLine_138 : decode cX8_readLine 138 = .ok (.goto 25, 3) := by decide +kernel
theorem dX8_readLine_141 : decode cX8_readLine 141 = .ok (.aload_n 0, 1) := by decide +kernel
theorem dX8_readLine_142 : decode cX8_readLine 142 = .ok (.ldc_w 293, 3) := by decide +kernel
theorem dX8_readLine_145 : decode cX8_readLine 145 = .ok (.invokevirtual 213, 3) := by decide +kernel
theorem dX8_readLine_148 : decode cX8_readLine 148 = .ok (.ifCond .eq 10, 3) := by decide +kernel
theorem dX8_readLine_151 : decode cX8_readLine 151 = .ok (.aload_n 0, 1) := by decide +kernel
theorem dX8_readLine_152 : decode cX8_readLine 152 = .ok (.invokevirtual 295, 3) := by decide +kernel
theorem dX8_readLine_155 : decode cX8_readLine 155 = .ok (.goto 8, 3) := by decide +kernel
theorem dX8_readLine_158 : decode cX8_readLine 158 = .ok (.aload_n 0, 1) := by decide +kernel
theorem dX8_readLine_159 : decode cX8_readLine 159 = .ok (.iconst 1, 1) := by decide +kernel
theorem dX8_readLine_160 : decode cX8_readLine 160 = .ok (.invokevirtual 220, 3) := by decide +kernel
theorem dX8_readLine_163 : decode cX8_readLine 163 = .ok (.aload_n 0, 1) := by decide +kernel
theorem dX8_readLine_164 : decode cX8_readLine 164 = .ok (.bipush 59, 2) := by decide +kernel
theorem dX8_readLine_166 : decode cX8_readLine 166 = .ok (.invokevirtual 240, 3) := by decide +kernel
theorem dX8_readLine_169 : decode cX8_readLine 169 = .ok (.iload_n 1, 1) := by decide +kernel
theorem dX8_readLine_170 : decode cX8_readLine 170 = .ok (.iload_n 2, 1) := by decide +kernel
theorem dX8_readLine_171 : decode cX8_readLine 171 = .ok (.ior, 1) := by decide +kernel
theorem dX8_readLine_172 : decode cX8_readLine 172 = .ok (.ireturn, 1) := by decide +kernel
def f_X8_another_18   (I : Mem) : Option (Int32 × Mem) :=
  if (I 8 0 0 21) = 0 then ((f_X8_stepOn I).bind fun y1 =>
  some ((1 : Int32), y1)) else (some ((0 : Int32), I))
theorem b_X8_another_18 (X : CX) (Q : State → Prop) {I : Mem} {P : PMem} {O : Nat → Int64} {D : Bool} {n : Nat} {r : (Int32 × Mem)}  (h : f_X8_another_18 I = some r) (E : EndR X cX8_another RX8 3 (some .boolean) 4 n (some (.inl r.1)) r.2 P O D Q) : Here X cX8_another RX8 3 (some .boolean) 4 n 18 [some (.inr (.inr (8, 0, 0))), none, none] [] I P O D n Q := by
  unfold f_X8_another_18 at h
  refine h_aload_n dX8_another_18 rfl ?_
  refine g_X8_199  dX8_another_19 ?_
  refine h_if_eq (tgt := 27) dX8_another_22 (by decide) (fun q1 => ?_) (fun q1 => ?_)
  · rw [if_pos q1] at h
    refine h_aload_n dX8_another_27 rfl ?_
    obtain ⟨y1, hh1, h⟩ := obd_some h
    refine h_cVv [] (m_X8_stepOn  hh1) cw_X8_224 dX8_another_28 rfl ok_8 (by decide) rfl (Or.inr rfl) rfl ?_
    refine h_iconst (1 : Int32) dX8_another_31 k_iconst_1 ?_
    cases h
    exact h_zret dX8_another_32 rfl rfl E
  · rw [if_neg q1] at h
    refine h_iconst (0 : Int32) dX8_another_25 k_iconst_0 ?_
    cases h
    exact h_zret dX8_another_26 rfl rfl E
def f_X8_another   (I : Mem) (v1 : Int32) (v2 : Int32) : Option (Int32 × Mem) :=
  gd (inb ((7 : Int32) + v1) 14) <|
  if (I 50 0 0 (((7 : Int32) + v1).toNatClampNeg)) = v2 then ((f_X8_wrong I (2 : Int32)).bind fun y1 =>
  f_X8_another_18 y1) else (f_X8_another_18 I)
theorem b_X8_another (X : CX) (Q : State → Prop) {I : Mem} {P : PMem} {O : Nat → Int64} {D : Bool} {n : Nat} {v1 : Int32} {v2 : Int32} {r : (Int32 × Mem)}  (h : f_X8_another I v1 v2 = some r) (E : EndR X cX8_another RX8 3 (some .boolean) 4 n (some (.inl r.1)) r.2 P O D Q) : Here X cX8_another RX8 3 (some .boolean) 4 n 0 [some (.inr (.inr (8, 0, 0))), some (.inl v1), some (.inl v2)] [] I P O D n Q := by
  unfold f_X8_another at h
  refine h_aload_n dX8_another_0 rfl ?_
  refine g_X8_34  dX8_another_1 ?_
  refine h_bipush (7 : Int32) dX8_another_4 k_bipush_7 ?_
  refine h_iload_n dX8_another_6 rfl ?_
  refine h_iadd dX8_another_7 ?_
  obtain ⟨g1, h⟩ := gd_some h
  refine al_50  (((7 : Int32) + v1).toNatClampNeg) rfl dX8_another_8 g1 ?_
  refine h_iload_n dX8_another_9 rfl ?_
  refine h_icmp_ne (tgt := 18) dX8_another_10 (by decide) (fun q1 => ?_) (fun q1 => ?_)
  · rw [if_neg q1] at h
    exact h_mask [true, false, false] (b_X8_another_18 X Q  h E)
  · rw [if_pos q1] at h
    refine h_aload_n dX8_another_13 rfl ?_
    refine h_iconst (2 : Int32) dX8_another_14 k_iconst_2 ?_
    obtain ⟨y1, hh1, h⟩ := obd_some h
    refine h_cVv [.inl (2 : Int32)] (m_X8_wrong  hh1) cw_X8_220 dX8_another_15 rfl ok_8 (by decide) rfl (Or.inr rfl) rfl ?_
    exact h_mask [true, false, false] (b_X8_another_18 X Q  h E)
theorem m_X8_another {I : Mem} {P : PMem} {O : Nat → Int64} {D : Bool} {n : Nat} {v1 : Int32} {v2 : Int32} {r : (Int32 × Mem)}  (h : f_X8_another I v1 v2 = some r) : MethR yX8_another cX8_another 3 (some .boolean) 4 [.inr (.inr (8, 0, 0)), .inl v1, .inl v2] I P O D n (some (.inl r.1)) r.2 P O D n := meth_R (Nat.le_refl _) (by decide) rfl (Nat.le_of_ble_eq_true rfl) rfl (fun X Q E => b_X8_another X Q  h E)
def f_X8_readTown_44   (I : Mem) : Option ((Mem) ⊕ Nat) :=
  bnd (upd4 I 50 0 0 7 ((I 50 0 0 7) + (1 : Int32))) fun I1' =>
  some (Sum.inl I1')
theorem b_X8_readTown_44 (X : CX) (Q : State → Prop) {I : Mem} {P : PMem} {O : Nat → Int64} {D : Bool} {n : Nat} {r : (Mem)}  (h : f_X8_readTown_44 I = some (Sum.inl r)) (E : EndR X cX8_readTown RX8 1 (none) 10 n none r P O D Q) : Here X cX8_readTown RX8 1 (none) 10 n 44 [some (.inr (.inr (8, 0, 0)))] [] I P O D n Q := by
  unfold f_X8_readTown_44 at h
  refine h_aload_n dX8_readTown_44 rfl ?_
  refine g_X8_34  dX8_readTown_45 ?_
  refine h_bipush (7 : Int32) dX8_readTown_48 k_bipush_7 ?_
  refine h_dup2 dX8_readTown_50 (fun _ => rfl) (fun _ => rfl) ?_
  refine al_50  7 cl_7 dX8_readTown_51 rfl ?_
  refine h_iconst (1 : Int32) dX8_readTown_52 k_iconst_1 ?_
  refine h_iadd dX8_readTown_53 ?_
  obtain ⟨I1', e1, h⟩ := bnd_some h
  refine as_50  7 cl_7 dX8_readTown_54 rfl ?_
  refine h_nmI e1 ?_
  cases h
  exact h_vret dX8_readTown_55 rfl E
theorem bx_X8_readTown_44 (X : CX) (Q : State → Prop) {I : Mem} {P : PMem} {O : Nat → Int64} {D : Bool} {n : Nat} {r : Nat}  (h : f_X8_readTown_44 I = some (Sum.inr r)) (E : EndX X cX8_readTown RX8 1 (none) 10 (n + 1) r I P O D Q) : Here X cX8_readTown RX8 1 (none) 10 (n + 1) 44 [some (.inr (.inr (8, 0, 0)))] [] I P O D n Q := by
  unfold f_X8_readTown_44 at h
  refine h_aload_n dX8_readTown_44 rfl ?_
  refine g_X8_34  dX8_readTown_45 ?_
  refine h_bipush (7 : Int32) dX8_readTown_48 k_bipush_7 ?_
  refine h_dup2 dX8_readTown_50 (fun _ => rfl) (fun _ => rfl) ?_
  refine al_50  7 cl_7 dX8_readTown_51 rfl ?_
  refine h_iconst (1 : Int32) dX8_readTown_52 k_iconst_1 ?_
  refine h_iadd dX8_readTown_53 ?_
  obtain ⟨I1', e1, h⟩ := bnd_some h
  refine as_50  7 cl_7 dX8_readTown_54 rfl ?_
  refine h_nmI e1 ?_
  cases h
def f_X8_readTown   (I : Mem) : Option ((Mem) ⊕ Nat) :=
  (f_X8_another I (0 : Int32) (9 : Int32)).bind fun y1 =>
  if y1.1 = 0 then (some (Sum.inl y1.2)) else (thb (f_X8_is y1.2 12) fun y2 =>
  if y2 = 0 then (f_X8_readTown_44 y1.2) else (bnd (upd4 y1.2 50 0 0 8 ((y1.2 50 0 0 8) ||| (jshl (1 : Int32) (y1.2 50 0 0 7)))) fun I1' =>
  (f_X8_stepOn I1').bind fun y3 =>
  f_X8_readTown_44 y3))
theorem b_X8_readTown (X : CX) (Q : State → Prop) {I : Mem} {P : PMem} {O : Nat → Int64} {D : Bool} {n : Nat} {r : (Mem)}  (h : f_X8_readTown I = some (Sum.inl r)) (E : EndR X cX8_readTown RX8 1 (none) 10 n none r P O D Q) : Here X cX8_readTown RX8 1 (none) 10 n 0 [some (.inr (.inr (8, 0, 0)))] [] I P O D n Q := by
  unfold f_X8_readTown at h
  refine h_aload_n dX8_readTown_0 rfl ?_
  refine h_iconst (0 : Int32) dX8_readTown_1 k_iconst_0 ?_
  refine h_bipush (9 : Int32) dX8_readTown_2 k_bipush_9 ?_
  obtain ⟨y1, hh1, h⟩ := obd_some h
  refine h_cVi [.inl (0 : Int32), .inl (9 : Int32)] (m_X8_another  hh1) cw_X8_267 dX8_readTown_4 rfl ok_8 (by decide) rfl (Or.inr rfl) rfl ?_
  refine h_if_ne (tgt := 11) dX8_readTown_7 (by decide) (fun q1 => ?_) (fun q1 => ?_)
  · rw [if_neg q1] at h
    refine h_aload_n dX8_readTown_11 rfl ?_
    refine h_ldcws (text := "inn") (j := 12) dX8_readTown_12 (by decide) ?_
    obtain ⟨y2, hh2, h⟩ := thb_R h
    refine h_cVi [.inr (.inr (90, 12, 0))] (m_X8_is (by decide) hh2) cw_X8_213 dX8_readTown_15 rfl ok_8 (by decide) rfl (Or.inr rfl) rfl ?_
    refine h_if_eq (tgt := 44) dX8_readTown_18 (by decide) (fun q2 => ?_) (fun q2 => ?_)
    · rw [if_pos q2] at h
      exact (b_X8_readTown_44 X Q  h E)
    · rw [if_neg q2] at h
      refine h_aload_n dX8_readTown_21 rfl ?_
      refine g_X8_34  dX8_readTown_22 ?_
      refine h_bipush (8 : Int32) dX8_readTown_25 k_bipush_8 ?_
      refine h_dup2 dX8_readTown_27 (fun _ => rfl) (fun _ => rfl) ?_
      refine al_50  8 cl_8 dX8_readTown_28 rfl ?_
      refine h_iconst (1 : Int32) dX8_readTown_29 k_iconst_1 ?_
      refine h_aload_n dX8_readTown_30 rfl ?_
      refine g_X8_34  dX8_readTown_31 ?_
      refine h_bipush (7 : Int32) dX8_readTown_34 k_bipush_7 ?_
      refine al_50  7 cl_7 dX8_readTown_36 rfl ?_
      refine h_shl dX8_readTown_37 ?_
      refine h_ior dX8_readTown_38 ?_
      obtain ⟨I1', e1, h⟩ := bnd_some h
      refine as_50  8 cl_8 dX8_readTown_39 rfl ?_
      refine h_nmI e1 ?_
      refine h_aload_n dX8_readTown_40 rfl ?_
      obtain ⟨y3, hh3, h⟩ := obd_some h
      refine h_cVv [] (m_X8_stepOn  hh3) cw_X8_224 dX8_readTown_41 rfl ok_8 (by decide) rfl (Or.inr rfl) rfl ?_
      exact (b_X8_readTown_44 X Q  h E)
  · rw [if_pos q1] at h
    cases h
    exact h_vret dX8_readTown_10 rfl E
theorem bx_X8_readTown (X : CX) (Q : State → Prop) {I : Mem} {P : PMem} {O : Nat → Int64} {D : Bool} {n : Nat} {r : Nat}  (h : f_X8_readTown I = some (Sum.inr r)) (E : EndX X cX8_readTown RX8 1 (none) 10 (n + 1) r I P O D Q) : Here X cX8_readTown RX8 1 (none) 10 (n + 1) 0 [some (.inr (.inr (8, 0, 0)))] [] I P O D n Q := by
  unfold f_X8_readTown at h
  refine h_aload_n dX8_readTown_0 rfl ?_
  refine h_iconst (0 : Int32) dX8_readTown_1 k_iconst_0 ?_
  refine h_bipush (9 : Int32) dX8_readTown_2 k_bipush_9 ?_
  obtain ⟨y1, hh1, h⟩ := obd_some h
  refine h_cVi [.inl (0 : Int32), .inl (9 : Int32)] (m_X8_another  hh1) cw_X8_267 dX8_readTown_4 rfl ok_8 (by decide) rfl (Or.inr rfl) rfl ?_
  refine h_if_ne (tgt := 11) dX8_readTown_7 (by decide) (fun q1 => ?_) (fun q1 => ?_)
  · rw [if_neg q1] at h
    refine h_aload_n dX8_readTown_11 rfl ?_
    refine h_ldcws (text := "inn") (j := 12) dX8_readTown_12 (by decide) ?_
    rcases thb_X h with hh2 | ⟨y2, hh2, h⟩
    · exact h_callVX (as := [.inr (.inr (90, 12, 0))]) (mx_X8_is (by decide) hh2) cw_X8_213 dX8_readTown_15 rfl ok_8 (by decide) rfl rfl E
    refine h_cVi [.inr (.inr (90, 12, 0))] (m_X8_is (by decide) hh2) cw_X8_213 dX8_readTown_15 rfl ok_8 (by decide) rfl (Or.inr rfl) rfl ?_
    refine h_if_eq (tgt := 44) dX8_readTown_18 (by decide) (fun q2 => ?_) (fun q2 => ?_)
    · rw [if_pos q2] at h
      exact (bx_X8_readTown_44 X Q  h E)
    · rw [if_neg q2] at h
      refine h_aload_n dX8_readTown_21 rfl ?_
      refine g_X8_34  dX8_readTown_22 ?_
      refine h_bipush (8 : Int32) dX8_readTown_25 k_bipush_8 ?_
      refine h_dup2 dX8_readTown_27 (fun _ => rfl) (fun _ => rfl) ?_
      refine al_50  8 cl_8 dX8_readTown_28 rfl ?_
      refine h_iconst (1 : Int32) dX8_readTown_29 k_iconst_1 ?_
      refine h_aload_n dX8_readTown_30 rfl ?_
      refine g_X8_34  dX8_readTown_31 ?_
      refine h_bipush (7 : Int32) dX8_readTown_34 k_bipush_7 ?_
      refine al_50  7 cl_7 dX8_readTown_36 rfl ?_
      refine h_shl dX8_readTown_37 ?_
      refine h_ior dX8_readTown_38 ?_
      obtain ⟨I1', e1, h⟩ := bnd_some h
      refine as_50  8 cl_8 dX8_readTown_39 rfl ?_
      refine h_nmI e1 ?_
      refine h_aload_n dX8_readTown_40 rfl ?_
      obtain ⟨y3, hh3, h⟩ := obd_some h
      refine h_cVv [] (m_X8_stepOn  hh3) cw_X8_224 dX8_readTown_41 rfl ok_8 (by decide) rfl (Or.inr rfl) rfl ?_
      exact (bx_X8_readTown_44 X Q  h E)
  · rw [if_pos q1] at h
    cases h
theorem m_X8_readTown {I : Mem} {P : PMem} {O : Nat → Int64} {D : Bool} {n : Nat}  {r : (Mem)}  (h : f_X8_readTown I = some (Sum.inl r)) : MethR yX8_readTown cX8_readTown 1 (none) 10 [.inr (.inr (8, 0, 0))] I P O D n none r P O D n := meth_R (Nat.le_refl _) (by decide) rfl (Nat.le_of_ble_eq_true rfl) rfl (fun X Q E => b_X8_readTown X Q  h E)
theorem mx_X8_readTown {I : Mem} {P : PMem} {O : Nat → Int64} {D : Bool} {n : Nat}  {r : Nat}  (h : f_X8_readTown I = some (Sum.inr r)) : MethX yX8_readTown cX8_readTown 1 (none) 10 [.inr (.inr (8, 0, 0))] I P O D n r I P O D (n + 1) := meth_X (Nat.le_succ _) (by decide) rfl (Nat.le_of_ble_eq_true rfl) rfl (fun X Q E => bx_X8_readTown X Q  h E)
def f_X8_couple  (I : Mem) (v0 : Int32) (v1 : Int32) : Option (Int32) :=
  some (((9 : Int32) * v0) + v1)
theorem b_X8_couple (X : CX) (Q : State → Prop) {I : Mem} {P : PMem} {O : Nat → Int64} {D : Bool} {n : Nat} {v0 : Int32} {v1 : Int32} {r : (Int32)}  (h : f_X8_couple I v0 v1 = some r) (E : EndR X cX8_couple RX8 2 (some .int) 2 n (some (.inl r)) I P O D Q) : Here X cX8_couple RX8 2 (some .int) 2 n 0 [some (.inl v0), some (.inl v1)] [] I P O D n Q := by
  unfold f_X8_couple at h
  refine h_bipush (9 : Int32) dX8_couple_0 k_bipush_9 ?_
  refine h_iload_n dX8_couple_2 rfl ?_
  refine h_imul dX8_couple_3 ?_
  refine h_iload_n dX8_couple_4 rfl ?_
  refine h_iadd dX8_couple_5 ?_
  cases h
  exact h_iret dX8_couple_6 rfl E
theorem m_X8_couple {I : Mem} {P : PMem} {O : Nat → Int64} {D : Bool} {n : Nat} {v0 : Int32} {v1 : Int32} {r : (Int32)}  (h : f_X8_couple I v0 v1 = some r) : MethR yX8_couple cX8_couple 2 (some .int) 2 [.inl v0, .inl v1] I P O D n (some (.inl r)) I P O D n := meth_R (Nat.le_refl _) (by decide) rfl (Nat.le_of_ble_eq_true rfl) rfl (fun X Q E => b_X8_couple X Q  h E)
def f_X8_readRoad_78   (I : Mem) (v1 : Int32) (v2 : Int32) (v3 : Int32) : Option (Mem) :=
  (f_X8_readNumber I (1 : Int32) (9 : Int32)).bind fun y1 =>
  if (y1.2 8 0 0 21) = 0 then ((f_X8_couple y1.2 v1 v2).bind fun y2 =>
  gd (inb (v3 + y2) 162) <|
  bnd (upd4 y1.2 51 0 0 ((v3 + y2).toNatClampNeg) y1.1) fun I1' =>
  (f_X8_couple I1' v2 v1).bind fun y3 =>
  gd (inb (v3 + y3) 162) <|
  bnd (upd4 I1' 51 0 0 ((v3 + y3).toNatClampNeg) y1.1) fun I2' =>
  bnd (upd4 I2' 50 0 0 9 ((I2' 50 0 0 9) + (1 : Int32))) fun I3' =>
  some I3') else (some y1.2)
theorem b_X8_readRoad_78 (X : CX) (Q : State → Prop) {I : Mem} {P : PMem} {O : Nat → Int64} {D : Bool} {n : Nat} {v1 : Int32} {v2 : Int32} {v3 : Int32} {r : (Mem)}  (h : f_X8_readRoad_78 I v1 v2 v3 = some r) (E : EndR X cX8_readRoad RX8 5 (none) 5 n none r P O D Q) : Here X cX8_readRoad RX8 5 (none) 5 n 78 [some (.inr (.inr (8, 0, 0))), some (.inl v1), some (.inl v2), some (.inl v3), none] [] I P O D n Q := by
  unfold f_X8_readRoad_78 at h
  refine h_aload_n dX8_readRoad_78 rfl ?_
  refine h_iconst (1 : Int32) dX8_readRoad_79 k_iconst_1 ?_
  refine h_bipush (9 : Int32) dX8_readRoad_80 k_bipush_9 ?_
  obtain ⟨y1, hh1, h⟩ := obd_some h
  refine h_cVi [.inl (1 : Int32), .inl (9 : Int32)] (m_X8_readNumber  hh1) cw_X8_230 dX8_readRoad_82 rfl ok_8 (by decide) rfl (Or.inr rfl) rfl ?_
  refine h_istore dX8_readRoad_85 (by decide) rfl ?_
  refine h_aload_n dX8_readRoad_87 rfl ?_
  refine g_X8_199  dX8_readRoad_88 ?_
  refine h_if_eq (tgt := 95) dX8_readRoad_91 (by decide) (fun q1 => ?_) (fun q1 => ?_)
  · rw [if_pos q1] at h
    refine h_aload_n dX8_readRoad_95 rfl ?_
    refine g_X8_38  dX8_readRoad_96 ?_
    refine h_iload_n dX8_readRoad_99 rfl ?_
    refine h_iload_n dX8_readRoad_100 rfl ?_
    refine h_iload_n dX8_readRoad_101 rfl ?_
    obtain ⟨y2, hh2, h⟩ := obd_some h
    refine h_cSi [.inl v1, .inl v2] (m_X8_couple  hh2) cs_X8_276 dX8_readRoad_102 rfl (by decide) rfl (Or.inr rfl) rfl ?_
    refine h_iadd dX8_readRoad_105 ?_
    refine h_iload dX8_readRoad_106 rfl ?_
    obtain ⟨g1, h⟩ := gd_some h
    obtain ⟨I1', e1, h⟩ := bnd_some h
    refine as_51  ((v3 + y2).toNatClampNeg) rfl dX8_readRoad_108 g1 ?_
    refine h_nmI e1 ?_
    refine h_aload_n dX8_readRoad_109 rfl ?_
    refine g_X8_38  dX8_readRoad_110 ?_
    refine h_iload_n dX8_readRoad_113 rfl ?_
    refine h_iload_n dX8_readRoad_114 rfl ?_
    refine h_iload_n dX8_readRoad_115 rfl ?_
    obtain ⟨y3, hh3, h⟩ := obd_some h
    refine h_cSi [.inl v2, .inl v1] (m_X8_couple  hh3) cs_X8_276 dX8_readRoad_116 rfl (by decide) rfl (Or.inr rfl) rfl ?_
    refine h_iadd dX8_readRoad_119 ?_
    refine h_iload dX8_readRoad_120 rfl ?_
    obtain ⟨g2, h⟩ := gd_some h
    obtain ⟨I2', e2, h⟩ := bnd_some h
    refine as_51  ((v3 + y3).toNatClampNeg) rfl dX8_readRoad_122 g2 ?_
    refine h_nmI e2 ?_
    refine h_aload_n dX8_readRoad_123 rfl ?_
    refine g_X8_34  dX8_readRoad_124 ?_
    refine h_bipush (9 : Int32) dX8_readRoad_127 k_bipush_9 ?_
    refine h_dup2 dX8_readRoad_129 (fun _ => rfl) (fun _ => rfl) ?_
    refine al_50  9 cl_9 dX8_readRoad_130 rfl ?_
    refine h_iconst (1 : Int32) dX8_readRoad_131 k_iconst_1 ?_
    refine h_iadd dX8_readRoad_132 ?_
    obtain ⟨I3', e3, h⟩ := bnd_some h
    refine as_50  9 cl_9 dX8_readRoad_133 rfl ?_
    refine h_nmI e3 ?_
    cases h
    exact h_vret dX8_readRoad_134 rfl E
  · rw [if_neg q1] at h
    cases h
    exact h_vret dX8_readRoad_94 rfl E
def f_X8_readRoad_67   (I : Mem) (v1 : Int32) (v2 : Int32) (v3 : Int32) : Option (Mem) :=
  if (I 8 0 0 21) = 0 then ((f_X8_stepOn I).bind fun y1 =>
  f_X8_readRoad_78 y1 v1 v2 v3) else (f_X8_readRoad_78 I v1 v2 v3)
theorem b_X8_readRoad_67 (X : CX) (Q : State → Prop) {I : Mem} {P : PMem} {O : Nat → Int64} {D : Bool} {n : Nat} {v1 : Int32} {v2 : Int32} {v3 : Int32} {r : (Mem)}  (h : f_X8_readRoad_67 I v1 v2 v3 = some r) (E : EndR X cX8_readRoad RX8 5 (none) 5 n none r P O D Q) : Here X cX8_readRoad RX8 5 (none) 5 n 67 [some (.inr (.inr (8, 0, 0))), some (.inl v1), some (.inl v2), some (.inl v3), none] [] I P O D n Q := by
  unfold f_X8_readRoad_67 at h
  refine h_aload_n dX8_readRoad_67 rfl ?_
  refine g_X8_199  dX8_readRoad_68 ?_
  refine h_if_ne (tgt := 78) dX8_readRoad_71 (by decide) (fun q1 => ?_) (fun q1 => ?_)
  · rw [if_neg q1] at h
    exact (b_X8_readRoad_78 X Q  h E)
  · rw [if_pos q1] at h
    refine h_aload_n dX8_readRoad_74 rfl ?_
    obtain ⟨y1, hh1, h⟩ := obd_some h
    refine h_cVv [] (m_X8_stepOn  hh1) cw_X8_224 dX8_readRoad_75 rfl ok_8 (by decide) rfl (Or.inr rfl) rfl ?_
    exact (b_X8_readRoad_78 X Q  h E)
def f_X8_readRoad_62   (I : Mem) (v1 : Int32) (v2 : Int32) (v3 : Int32) : Option (Mem) :=
  (f_X8_wrong I (4 : Int32)).bind fun y1 =>
  f_X8_readRoad_67 y1 v1 v2 v3
theorem b_X8_readRoad_62 (X : CX) (Q : State → Prop) {I : Mem} {P : PMem} {O : Nat → Int64} {D : Bool} {n : Nat} {v1 : Int32} {v2 : Int32} {v3 : Int32} {r : (Mem)}  (h : f_X8_readRoad_62 I v1 v2 v3 = some r) (E : EndR X cX8_readRoad RX8 5 (none) 5 n none r P O D Q) : Here X cX8_readRoad RX8 5 (none) 5 n 62 [some (.inr (.inr (8, 0, 0))), some (.inl v1), some (.inl v2), some (.inl v3), none] [] I P O D n Q := by
  unfold f_X8_readRoad_62 at h
  refine h_aload_n dX8_readRoad_62 rfl ?_
  refine h_iconst (4 : Int32) dX8_readRoad_63 k_iconst_4 ?_
  obtain ⟨y1, hh1, h⟩ := obd_some h
  refine h_cVv [.inl (4 : Int32)] (m_X8_wrong  hh1) cw_X8_220 dX8_readRoad_64 rfl ok_8 (by decide) rfl (Or.inr rfl) rfl ?_
  exact (b_X8_readRoad_67 X Q  h E)
def f_X8_readRoad_27   (I : Mem) (v1 : Int32) : Option (Mem) :=
  (f_X8_townNow I).bind fun y1 =>
  if (y1.2 8 0 0 21) = 0 then (if v1 = y1.1 then (f_X8_readRoad_62 y1.2 v1 y1.1 (81 : Int32)) else ((f_X8_couple y1.2 v1 y1.1).bind fun y2 =>
  gd (inb ((81 : Int32) + y2) 162) <|
  if (y1.2 51 0 0 (((81 : Int32) + y2).toNatClampNeg)) ≤ 0 then (f_X8_readRoad_67 y1.2 v1 y1.1 (81 : Int32)) else (f_X8_readRoad_62 y1.2 v1 y1.1 (81 : Int32)))) else (f_X8_readRoad_67 y1.2 v1 y1.1 (81 : Int32))
theorem b_X8_readRoad_27 (X : CX) (Q : State → Prop) {I : Mem} {P : PMem} {O : Nat → Int64} {D : Bool} {n : Nat} {v1 : Int32} {r : (Mem)}  (h : f_X8_readRoad_27 I v1 = some r) (E : EndR X cX8_readRoad RX8 5 (none) 5 n none r P O D Q) : Here X cX8_readRoad RX8 5 (none) 5 n 27 [some (.inr (.inr (8, 0, 0))), some (.inl v1), none, none, none] [] I P O D n Q := by
  unfold f_X8_readRoad_27 at h
  refine h_aload_n dX8_readRoad_27 rfl ?_
  obtain ⟨y1, hh1, h⟩ := obd_some h
  refine h_cVi [] (m_X8_townNow  hh1) cw_X8_273 dX8_readRoad_28 rfl ok_8 (by decide) rfl (Or.inr rfl) rfl ?_
  refine h_istore_n dX8_readRoad_31 (by decide) rfl ?_
  refine h_bipush (81 : Int32) dX8_readRoad_32 k_bipush_81 ?_
  refine h_istore_n dX8_readRoad_34 (by decide) rfl ?_
  refine h_aload_n dX8_readRoad_35 rfl ?_
  refine g_X8_199  dX8_readRoad_36 ?_
  refine h_if_ne (tgt := 67) dX8_readRoad_39 (by decide) (fun q1 => ?_) (fun q1 => ?_)
  · rw [if_neg q1] at h
    exact (b_X8_readRoad_67 X Q  h E)
  · rw [if_pos q1] at h
    refine h_iload_n dX8_readRoad_42 rfl ?_
    refine h_iload_n dX8_readRoad_43 rfl ?_
    refine h_icmp_eq (tgt := 62) dX8_readRoad_44 (by decide) (fun q2 => ?_) (fun q2 => ?_)
    · rw [if_pos q2] at h
      exact (b_X8_readRoad_62 X Q  h E)
    · rw [if_neg q2] at h
      refine h_aload_n dX8_readRoad_47 rfl ?_
      refine g_X8_38  dX8_readRoad_48 ?_
      refine h_iload_n dX8_readRoad_51 rfl ?_
      refine h_iload_n dX8_readRoad_52 rfl ?_
      refine h_iload_n dX8_readRoad_53 rfl ?_
      obtain ⟨y2, hh2, h⟩ := obd_some h
      refine h_cSi [.inl v1, .inl y1.1] (m_X8_couple  hh2) cs_X8_276 dX8_readRoad_54 rfl (by decide) rfl (Or.inr rfl) rfl ?_
      refine h_iadd dX8_readRoad_57 ?_
      obtain ⟨g1, h⟩ := gd_some h
      refine al_51  (((81 : Int32) + y2).toNatClampNeg) rfl dX8_readRoad_58 g1 ?_
      refine h_if_le (tgt := 67) dX8_readRoad_59 (by decide) (fun q3 => ?_) (fun q3 => ?_)
      · rw [if_pos q3] at h
        exact (b_X8_readRoad_67 X Q  h E)
      · rw [if_neg q3] at h
        exact (b_X8_readRoad_62 X Q  h E)
def f_X8_readRoad   (I : Mem) : Option (Mem) :=
  (f_X8_another I (2 : Int32) (14 : Int32)).bind fun y1 =>
  if y1.1 = 0 then (some y1.2) else ((f_X8_townNow y1.2).bind fun y2 =>
  if (y2.2 8 0 0 21) = 0 then ((f_X8_stepOn y2.2).bind fun y3 =>
  f_X8_readRoad_27 y3 y2.1) else (f_X8_readRoad_27 y2.2 y2.1))
theorem b_X8_readRoad (X : CX) (Q : State → Prop) {I : Mem} {P : PMem} {O : Nat → Int64} {D : Bool} {n : Nat} {r : (Mem)}  (h : f_X8_readRoad I = some r) (E : EndR X cX8_readRoad RX8 5 (none) 5 n none r P O D Q) : Here X cX8_readRoad RX8 5 (none) 5 n 0 [some (.inr (.inr (8, 0, 0))), none, none, none, none] [] I P O D n Q := by
  unfold f_X8_readRoad at h
  refine h_aload_n dX8_readRoad_0 rfl ?_
  refine h_iconst (2 : Int32) dX8_readRoad_1 k_iconst_2 ?_
  refine h_bipush (14 : Int32) dX8_readRoad_2 k_bipush_14 ?_
  obtain ⟨y1, hh1, h⟩ := obd_some h
  refine h_cVi [.inl (2 : Int32), .inl (14 : Int32)] (m_X8_another  hh1) cw_X8_267 dX8_readRoad_4 rfl ok_8 (by decide) rfl (Or.inr rfl) rfl ?_
  refine h_if_ne (tgt := 11) dX8_readRoad_7 (by decide) (fun q1 => ?_) (fun q1 => ?_)
  · rw [if_neg q1] at h
    refine h_aload_n dX8_readRoad_11 rfl ?_
    obtain ⟨y2, hh2, h⟩ := obd_some h
    refine h_cVi [] (m_X8_townNow  hh2) cw_X8_273 dX8_readRoad_12 rfl ok_8 (by decide) rfl (Or.inr rfl) rfl ?_
    refine h_istore_n dX8_readRoad_15 (by decide) rfl ?_
    refine h_aload_n dX8_readRoad_16 rfl ?_
    refine g_X8_199  dX8_readRoad_17 ?_
    refine h_if_ne (tgt := 27) dX8_readRoad_20 (by decide) (fun q2 => ?_) (fun q2 => ?_)
    · rw [if_neg q2] at h
      exact (b_X8_readRoad_27 X Q  h E)
    · rw [if_pos q2] at h
      refine h_aload_n dX8_readRoad_23 rfl ?_
      obtain ⟨y3, hh3, h⟩ := obd_some h
      refine h_cVv [] (m_X8_stepOn  hh3) cw_X8_224 dX8_readRoad_24 rfl ok_8 (by decide) rfl (Or.inr rfl) rfl ?_
      exact (b_X8_readRoad_27 X Q  h E)
  · rw [if_pos q1] at h
    cases h
    exact h_vret dX8_readRoad_10 rfl E
theorem m_X8_readRoad {I : Mem} {P : PMem} {O : Nat → Int64} {D : Bool} {n : Nat}  {r : (Mem)}  (h : f_X8_readRoad I = some r) : MethR yX8_readRoad cX8_readRoad 5 (none) 5 [.inr (.inr (8, 0, 0))] I P O D n none r P O D n := meth_R (Nat.le_refl _) (by decide) rfl (Nat.le_of_ble_eq_true rfl) rfl (fun X Q E => b_X8_readRoad X Q  h E)
def f_X8_readJudge_186   (I : Mem) (v2 : Int32) (v3 : Int32) : Option (Mem) :=
  gd (inb v2 10) <|
  bnd (upd4 I 55 0 0 v2.toNatClampNeg v3) fun I1' =>
  bnd (upd4 I1' 50 0 0 11 ((I1' 50 0 0 11) + (1 : Int32))) fun I2' =>
  some I2'
theorem b_X8_readJudge_186 (X : CX) (Q : State → Prop) {I : Mem} {P : PMem} {O : Nat → Int64} {D : Bool} {n : Nat} {v2 : Int32} {v3 : Int32} {r : (Mem)}  (h : f_X8_readJudge_186 I v2 v3 = some r) (E : EndR X cX8_readJudge RX8 5 (none) 5 n none r P O D Q) : Here X cX8_readJudge RX8 5 (none) 5 n 186 [some (.inr (.inr (8, 0, 0))), none, some (.inl v2), some (.inl v3), none] [] I P O D n Q := by
  unfold f_X8_readJudge_186 at h
  refine h_aload_n dX8_readJudge_186 rfl ?_
  refine g_X8_49  dX8_readJudge_187 ?_
  refine h_iload_n dX8_readJudge_190 rfl ?_
  refine h_iload_n dX8_readJudge_191 rfl ?_
  obtain ⟨g1, h⟩ := gd_some h
  obtain ⟨I1', e1, h⟩ := bnd_some h
  refine as_55  v2.toNatClampNeg rfl dX8_readJudge_192 g1 ?_
  refine h_nmI e1 ?_
  refine h_aload_n dX8_readJudge_193 rfl ?_
  refine g_X8_34  dX8_readJudge_194 ?_
  refine h_bipush (11 : Int32) dX8_readJudge_197 k_bipush_11 ?_
  refine h_dup2 dX8_readJudge_199 (fun _ => rfl) (fun _ => rfl) ?_
  refine al_50  11 cl_11 dX8_readJudge_200 rfl ?_
  refine h_iconst (1 : Int32) dX8_readJudge_201 k_iconst_1 ?_
  refine h_iadd dX8_readJudge_202 ?_
  obtain ⟨I2', e2, h⟩ := bnd_some h
  refine as_50  11 cl_11 dX8_readJudge_203 rfl ?_
  refine h_nmI e2 ?_
  cases h
  exact h_vret dX8_readJudge_204 rfl E
def f_X8_readJudge_153 (k75 : Mem → Int32 → Int32 → Option (Mem))  (I : Mem) (v2 : Int32) (v3 : Int32) (v4 : Int32) : Option (Mem) :=
  if (I 8 0 0 21) = 0 then (gd (inb (((7 : Int32) * v2) + v3) 70) <|
  bnd (upd4 I 56 0 0 ((((7 : Int32) * v2) + v3).toNatClampNeg) v4) fun I1' =>
  (f_X8_stepOn I1').bind fun y1 =>
  k75 y1 v2 (v3 + (1 : Int32))) else (k75 I v2 v3)
theorem b_X8_readJudge_153 (X : CX) (Q : State → Prop) {I : Mem} {P : PMem} {O : Nat → Int64} {D : Bool} {n : Nat} {k75 : Mem → Int32 → Int32 → Option (Mem)} {v2 : Int32} {v3 : Int32} {v4 : Int32} {r : (Mem)}  (H75 : ∀ (I : Mem) (v2 : Int32) (v3 : Int32), k75 I v2 v3 = some r → Here X cX8_readJudge RX8 5 (none) 5 n 75 [some (.inr (.inr (8, 0, 0))), none, some (.inl v2), some (.inl v3), none] [] I P O D n Q) (h : f_X8_readJudge_153 k75 I v2 v3 v4 = some r) (E : EndR X cX8_readJudge RX8 5 (none) 5 n none r P O D Q) : Here X cX8_readJudge RX8 5 (none) 5 n 153 [some (.inr (.inr (8, 0, 0))), none, some (.inl v2), some (.inl v3), some (.inl v4)] [] I P O D n Q := by
  unfold f_X8_readJudge_153 at h
  refine h_aload_n dX8_readJudge_153 rfl ?_
  refine g_X8_199  dX8_readJudge_154 ?_
  refine h_if_eq (tgt := 163) dX8_readJudge_157 (by decide) (fun q1 => ?_) (fun q1 => ?_)
  · rw [if_pos q1] at h
    refine h_aload_n dX8_readJudge_163 rfl ?_
    refine g_X8_52  dX8_readJudge_164 ?_
    refine h_bipush (7 : Int32) dX8_readJudge_167 k_bipush_7 ?_
    refine h_iload_n dX8_readJudge_169 rfl ?_
    refine h_imul dX8_readJudge_170 ?_
    refine h_iload_n dX8_readJudge_171 rfl ?_
    refine h_iadd dX8_readJudge_172 ?_
    refine h_iload dX8_readJudge_173 rfl ?_
    obtain ⟨g1, h⟩ := gd_some h
    obtain ⟨I1', e1, h⟩ := bnd_some h
    refine as_56  ((((7 : Int32) * v2) + v3).toNatClampNeg) rfl dX8_readJudge_175 g1 ?_
    refine h_nmI e1 ?_
    refine h_iinc (1 : Int32) dX8_readJudge_176 rfl k_iinc_1 (by decide) rfl ?_
    refine h_aload_n dX8_readJudge_179 rfl ?_
    obtain ⟨y1, hh1, h⟩ := obd_some h
    refine h_cVv [] (m_X8_stepOn  hh1) cw_X8_224 dX8_readJudge_180 rfl ok_8 (by decide) rfl (Or.inr rfl) rfl ?_
    refine h_goto (tgt := 75) dX8_readJudge_183 (by decide) ?_
    exact h_mask [true, false, true, true, false] (H75 _ _ _ h)
  · rw [if_neg q1] at h
    refine h_goto (tgt := 75) dX8_readJudge_160 (by decide) ?_
    exact h_mask [true, false, true, true, false] (H75 _ _ _ h)
def f_X8_readJudge_101 (k75 : Mem → Int32 → Int32 → Option (Mem))  (I : Mem) (v2 : Int32) (v3 : Int32) : Option (Mem) :=
  (f_X8_townNow I).bind fun y1 =>
  if (y1.2 8 0 0 21) = 0 then (if v3 ≤ 0 then (f_X8_readJudge_153 k75 y1.2 v2 v3 y1.1) else (gd (inb ((((7 : Int32) * v2) + v3) - (1 : Int32)) 70) <|
  (f_X8_couple y1.2 (y1.2 56 0 0 (((((7 : Int32) * v2) + v3) - (1 : Int32)).toNatClampNeg)) y1.1).bind fun y2 =>
  gd (inb ((81 : Int32) + y2) 162) <|
  if (y1.2 51 0 0 (((81 : Int32) + y2).toNatClampNeg)) = 0 then ((f_X8_wrong y1.2 (6 : Int32)).bind fun y3 =>
  f_X8_readJudge_153 k75 y3 v2 v3 y1.1) else (f_X8_readJudge_153 k75 y1.2 v2 v3 y1.1))) else (f_X8_readJudge_153 k75 y1.2 v2 v3 y1.1)
theorem b_X8_readJudge_101 (X : CX) (Q : State → Prop) {I : Mem} {P : PMem} {O : Nat → Int64} {D : Bool} {n : Nat} {k75 : Mem → Int32 → Int32 → Option (Mem)} {v2 : Int32} {v3 : Int32} {r : (Mem)}  (H75 : ∀ (I : Mem) (v2 : Int32) (v3 : Int32), k75 I v2 v3 = some r → Here X cX8_readJudge RX8 5 (none) 5 n 75 [some (.inr (.inr (8, 0, 0))), none, some (.inl v2), some (.inl v3), none] [] I P O D n Q) (h : f_X8_readJudge_101 k75 I v2 v3 = some r) (E : EndR X cX8_readJudge RX8 5 (none) 5 n none r P O D Q) : Here X cX8_readJudge RX8 5 (none) 5 n 101 [some (.inr (.inr (8, 0, 0))), none, some (.inl v2), some (.inl v3), none] [] I P O D n Q := by
  unfold f_X8_readJudge_101 at h
  refine h_aload_n dX8_readJudge_101 rfl ?_
  obtain ⟨y1, hh1, h⟩ := obd_some h
  refine h_cVi [] (m_X8_townNow  hh1) cw_X8_273 dX8_readJudge_102 rfl ok_8 (by decide) rfl (Or.inr rfl) rfl ?_
  refine h_istore dX8_readJudge_105 (by decide) rfl ?_
  refine h_aload_n dX8_readJudge_107 rfl ?_
  refine g_X8_199  dX8_readJudge_108 ?_
  refine h_if_ne (tgt := 153) dX8_readJudge_111 (by decide) (fun q1 => ?_) (fun q1 => ?_)
  · rw [if_neg q1] at h
    exact (b_X8_readJudge_153 X Q H75  h E)
  · rw [if_pos q1] at h
    refine h_iload_n dX8_readJudge_114 rfl ?_
    refine h_if_le (tgt := 153) dX8_readJudge_115 (by decide) (fun q2 => ?_) (fun q2 => ?_)
    · rw [if_pos q2] at h
      exact (b_X8_readJudge_153 X Q H75  h E)
    · rw [if_neg q2] at h
      refine h_aload_n dX8_readJudge_118 rfl ?_
      refine g_X8_38  dX8_readJudge_119 ?_
      refine h_bipush (81 : Int32) dX8_readJudge_122 k_bipush_81 ?_
      refine h_aload_n dX8_readJudge_124 rfl ?_
      refine g_X8_52  dX8_readJudge_125 ?_
      refine h_bipush (7 : Int32) dX8_readJudge_128 k_bipush_7 ?_
      refine h_iload_n dX8_readJudge_130 rfl ?_
      refine h_imul dX8_readJudge_131 ?_
      refine h_iload_n dX8_readJudge_132 rfl ?_
      refine h_iadd dX8_readJudge_133 ?_
      refine h_iconst (1 : Int32) dX8_readJudge_134 k_iconst_1 ?_
      refine h_isub dX8_readJudge_135 ?_
      obtain ⟨g1, h⟩ := gd_some h
      refine al_56  (((((7 : Int32) * v2) + v3) - (1 : Int32)).toNatClampNeg) rfl dX8_readJudge_136 g1 ?_
      refine h_iload dX8_readJudge_137 rfl ?_
      obtain ⟨y2, hh2, h⟩ := obd_some h
      refine h_cSi [.inl (y1.2 56 0 0 (((((7 : Int32) * v2) + v3) - (1 : Int32)).toNatClampNeg)), .inl y1.1] (m_X8_couple  hh2) cs_X8_276 dX8_readJudge_139 rfl (by decide) rfl (Or.inr rfl) rfl ?_
      refine h_iadd dX8_readJudge_142 ?_
      obtain ⟨g2, h⟩ := gd_some h
      refine al_51  (((81 : Int32) + y2).toNatClampNeg) rfl dX8_readJudge_143 g2 ?_
      refine h_if_ne (tgt := 153) dX8_readJudge_144 (by decide) (fun q3 => ?_) (fun q3 => ?_)
      · rw [if_neg q3] at h
        exact (b_X8_readJudge_153 X Q H75  h E)
      · rw [if_pos q3] at h
        refine h_aload_n dX8_readJudge_147 rfl ?_
        refine h_bipush (6 : Int32) dX8_readJudge_148 k_bipush_6 ?_
        obtain ⟨y3, hh3, h⟩ := obd_some h
        refine h_cVv [.inl (6 : Int32)] (m_X8_wrong  hh3) cw_X8_220 dX8_readJudge_150 rfl ok_8 (by decide) rfl (Or.inr rfl) rfl ?_
        exact (b_X8_readJudge_153 X Q H75  h E)
def f_X8_readJudge_75   : Nat → Mem → Int32 → Int32 → Option (Mem)
  | 0, _, _, _ => none
  | fu + 1, I, v2, v3 =>
    if (I 8 0 0 21) = 0 then (if (I 8 0 0 17) = (2 : Int32) then (if v3 = (7 : Int32) then ((f_X8_wrong I (2 : Int32)).bind fun y1 =>
    f_X8_readJudge_101 (f_X8_readJudge_75 fu) y1 v2 v3) else (f_X8_readJudge_101 (f_X8_readJudge_75 fu) I v2 v3)) else (f_X8_readJudge_186 I v2 v3)) else (f_X8_readJudge_186 I v2 v3)
theorem b_X8_readJudge_75 (X : CX) (Q : State → Prop) {P : PMem} {O : Nat → Int64} {D : Bool} {n : Nat} {r : (Mem)}  : ∀ (fu : Nat) {I : Mem} {v2 : Int32} {v3 : Int32}, f_X8_readJudge_75 fu I v2 v3 = some r → EndR X cX8_readJudge RX8 5 (none) 5 n none r P O D Q → Here X cX8_readJudge RX8 5 (none) 5 n 75 [some (.inr (.inr (8, 0, 0))), none, some (.inl v2), some (.inl v3), none] [] I P O D n Q := by
  intro fu
  induction fu with
  | zero => intro I v2 v3 h E; cases h
  | succ fu ih =>
  intro I v2 v3 h E
  have H75 : ∀ (I : Mem) (v2 : Int32) (v3 : Int32), f_X8_readJudge_75 fu I v2 v3 = some r → Here X cX8_readJudge RX8 5 (none) 5 n 75 [some (.inr (.inr (8, 0, 0))), none, some (.inl v2), some (.inl v3), none] [] I P O D n Q := fun _ _ _ b => ih b E
  simp only [f_X8_readJudge_75] at h
  refine h_aload_n dX8_readJudge_75 rfl ?_
  refine g_X8_199  dX8_readJudge_76 ?_
  refine h_if_ne (tgt := 186) dX8_readJudge_79 (by decide) (fun q1 => ?_) (fun q1 => ?_)
  · rw [if_neg q1] at h
    exact (b_X8_readJudge_186 X Q  h E)
  · rw [if_pos q1] at h
    refine h_aload_n dX8_readJudge_82 rfl ?_
    refine g_X8_173  dX8_readJudge_83 ?_
    refine h_iconst (2 : Int32) dX8_readJudge_86 k_iconst_2 ?_
    refine h_icmp_ne (tgt := 186) dX8_readJudge_87 (by decide) (fun q2 => ?_) (fun q2 => ?_)
    · rw [if_neg q2] at h
      exact (b_X8_readJudge_186 X Q  h E)
    · rw [if_pos q2] at h
      refine h_iload_n dX8_readJudge_90 rfl ?_
      refine h_bipush (7 : Int32) dX8_readJudge_91 k_bipush_7 ?_
      refine h_icmp_ne (tgt := 101) dX8_readJudge_93 (by decide) (fun q3 => ?_) (fun q3 => ?_)
      · rw [if_neg q3] at h
        exact (b_X8_readJudge_101 X Q H75  h E)
      · rw [if_pos q3] at h
        refine h_aload_n dX8_readJudge_96 rfl ?_
        refine h_iconst (2 : Int32) dX8_readJudge_97 k_iconst_2 ?_
        obtain ⟨y1, hh1, h⟩ := obd_some h
        refine h_cVv [.inl (2 : Int32)] (m_X8_wrong  hh1) cw_X8_220 dX8_readJudge_98 rfl ok_8 (by decide) rfl (Or.inr rfl) rfl ?_
        exact (b_X8_readJudge_101 X Q H75  h E)
def f_X8_readJudge   (I : Mem) (v1 : Int32) : Option (Mem) :=
  (f_X8_another I (4 : Int32) (5 : Int32)).bind fun y1 =>
  if y1.1 = 0 then (some y1.2) else (bnd ((5 : Int32) + (y1.2 50 0 0 11)) fun x1 =>
  gd (inb x1 10) <|
  bnd (upd4 y1.2 52 0 0 x1.toNatClampNeg v1) fun I1' =>
  (f_X8_readNumber I1' (0 : Int32) (60 : Int32)).bind fun y2 =>
  bnd (upd4 y2.2 53 0 0 x1.toNatClampNeg y2.1) fun I2' =>
  (f_X8_readNumber I2' (0 : Int32) (9 : Int32)).bind fun y3 =>
  bnd (upd4 y3.2 54 0 0 x1.toNatClampNeg y3.1) fun I3' =>
  if (I3' 8 0 0 21) = 0 then (if (I3' 8 0 0 17) = (2 : Int32) then (f_X8_readJudge_75 FU I3' x1 (0 : Int32)) else ((f_X8_wrong I3' (1 : Int32)).bind fun y4 =>
  f_X8_readJudge_75 FU y4 x1 (0 : Int32))) else (f_X8_readJudge_75 FU I3' x1 (0 : Int32)))
theorem b_X8_readJudge (X : CX) (Q : State → Prop) {I : Mem} {P : PMem} {O : Nat → Int64} {D : Bool} {n : Nat} {v1 : Int32} {r : (Mem)}  (h : f_X8_readJudge I v1 = some r) (E : EndR X cX8_readJudge RX8 5 (none) 5 n none r P O D Q) : Here X cX8_readJudge RX8 5 (none) 5 n 0 [some (.inr (.inr (8, 0, 0))), some (.inl v1), none, none, none] [] I P O D n Q := by
  unfold f_X8_readJudge at h
  refine h_aload_n dX8_readJudge_0 rfl ?_
  refine h_iconst (4 : Int32) dX8_readJudge_1 k_iconst_4 ?_
  refine h_iconst (5 : Int32) dX8_readJudge_2 k_iconst_5 ?_
  obtain ⟨y1, hh1, h⟩ := obd_some h
  refine h_cVi [.inl (4 : Int32), .inl (5 : Int32)] (m_X8_another  hh1) cw_X8_267 dX8_readJudge_3 rfl ok_8 (by decide) rfl (Or.inr rfl) rfl ?_
  refine h_if_ne (tgt := 10) dX8_readJudge_6 (by decide) (fun q1 => ?_) (fun q1 => ?_)
  · rw [if_neg q1] at h
    refine h_iconst (5 : Int32) dX8_readJudge_10 k_iconst_5 ?_
    refine h_aload_n dX8_readJudge_11 rfl ?_
    refine g_X8_34  dX8_readJudge_12 ?_
    refine h_bipush (11 : Int32) dX8_readJudge_15 k_bipush_11 ?_
    refine al_50  11 cl_11 dX8_readJudge_17 rfl ?_
    refine h_iadd dX8_readJudge_18 ?_
    obtain ⟨x1, e1, h⟩ := bnd_some h
    refine h_nmv e1 ?_
    refine h_istore_n dX8_readJudge_19 (by decide) rfl ?_
    refine h_aload_n dX8_readJudge_20 rfl ?_
    refine g_X8_41  dX8_readJudge_21 ?_
    refine h_iload_n dX8_readJudge_24 rfl ?_
    refine h_iload_n dX8_readJudge_25 rfl ?_
    obtain ⟨g1, h⟩ := gd_some h
    obtain ⟨I1', e2, h⟩ := bnd_some h
    refine as_52  x1.toNatClampNeg rfl dX8_readJudge_26 g1 ?_
    refine h_nmI e2 ?_
    refine h_aload_n dX8_readJudge_27 rfl ?_
    refine g_X8_44  dX8_readJudge_28 ?_
    refine h_iload_n dX8_readJudge_31 rfl ?_
    refine h_aload_n dX8_readJudge_32 rfl ?_
    refine h_iconst (0 : Int32) dX8_readJudge_33 k_iconst_0 ?_
    refine h_bipush (60 : Int32) dX8_readJudge_34 k_bipush_60 ?_
    obtain ⟨y2, hh2, h⟩ := obd_some h
    refine h_cVi [.inl (0 : Int32), .inl (60 : Int32)] (m_X8_readNumber  hh2) cw_X8_230 dX8_readJudge_36 rfl ok_8 (by decide) rfl (Or.inr rfl) rfl ?_
    obtain ⟨I2', e3, h⟩ := bnd_some h
    refine as_53  x1.toNatClampNeg rfl dX8_readJudge_39 g1 ?_
    refine h_nmI e3 ?_
    refine h_aload_n dX8_readJudge_40 rfl ?_
    refine g_X8_47  dX8_readJudge_41 ?_
    refine h_iload_n dX8_readJudge_44 rfl ?_
    refine h_aload_n dX8_readJudge_45 rfl ?_
    refine h_iconst (0 : Int32) dX8_readJudge_46 k_iconst_0 ?_
    refine h_bipush (9 : Int32) dX8_readJudge_47 k_bipush_9 ?_
    obtain ⟨y3, hh3, h⟩ := obd_some h
    refine h_cVi [.inl (0 : Int32), .inl (9 : Int32)] (m_X8_readNumber  hh3) cw_X8_230 dX8_readJudge_49 rfl ok_8 (by decide) rfl (Or.inr rfl) rfl ?_
    obtain ⟨I3', e4, h⟩ := bnd_some h
    refine as_54  x1.toNatClampNeg rfl dX8_readJudge_52 g1 ?_
    refine h_nmI e4 ?_
    refine h_iconst (0 : Int32) dX8_readJudge_53 k_iconst_0 ?_
    refine h_istore_n dX8_readJudge_54 (by decide) rfl ?_
    refine h_aload_n dX8_readJudge_55 rfl ?_
    refine g_X8_199  dX8_readJudge_56 ?_
    refine h_if_ne (tgt := 75) dX8_readJudge_59 (by decide) (fun q2 => ?_) (fun q2 => ?_)
    · rw [if_neg q2] at h
      exact h_mask [true, false, true, true, false] (b_X8_readJudge_75 X Q FU  h E)
    · rw [if_pos q2] at h
      refine h_aload_n dX8_readJudge_62 rfl ?_
      refine g_X8_173  dX8_readJudge_63 ?_
      refine h_iconst (2 : Int32) dX8_readJudge_66 k_iconst_2 ?_
      refine h_icmp_eq (tgt := 75) dX8_readJudge_67 (by decide) (fun q3 => ?_) (fun q3 => ?_)
      · rw [if_pos q3] at h
        exact h_mask [true, false, true, true, false] (b_X8_readJudge_75 X Q FU  h E)
      · rw [if_neg q3] at h
        refine h_aload_n dX8_readJudge_70 rfl ?_
        refine h_iconst (1 : Int32) dX8_readJudge_71 k_iconst_1 ?_
        obtain ⟨y4, hh4, h⟩ := obd_some h
        refine h_cVv [.inl (1 : Int32)] (m_X8_wrong  hh4) cw_X8_220 dX8_readJudge_72 rfl ok_8 (by decide) rfl (Or.inr rfl) rfl ?_
        exact h_mask [true, false, true, true, false] (b_X8_readJudge_75 X Q FU  h E)
  · rw [if_pos q1] at h
    cases h
    exact h_vret dX8_readJudge_9 rfl E
theorem m_X8_readJudge {I : Mem} {P : PMem} {O : Nat → Int64} {D : Bool} {n : Nat} {v1 : Int32} {r : (Mem)}  (h : f_X8_readJudge I v1 = some r) : MethR yX8_readJudge cX8_readJudge 5 (none) 5 [.inr (.inr (8, 0, 0)), .inl v1] I P O D n none r P O D n := meth_R (Nat.le_refl _) (by decide) rfl (Nat.le_of_ble_eq_true rfl) rfl (fun X Q E => b_X8_readJudge X Q  h E)
def f_X8_readCase_171   (I : Mem) : Option (Mem) :=
  bnd (upd4 I 50 0 0 12 ((I 50 0 0 12) + (1 : Int32))) fun I1' =>
  some I1'
theorem b_X8_readCase_171 (X : CX) (Q : State → Prop) {I : Mem} {P : PMem} {O : Nat → Int64} {D : Bool} {n : Nat} {r : (Mem)}  (h : f_X8_readCase_171 I = some r) (E : EndR X cX8_readCase RX8 5 (none) 5 n none r P O D Q) : Here X cX8_readCase RX8 5 (none) 5 n 171 [some (.inr (.inr (8, 0, 0))), none, none, none, none] [] I P O D n Q := by
  unfold f_X8_readCase_171 at h
  refine h_aload_n dX8_readCase_171 rfl ?_
  refine g_X8_34  dX8_readCase_172 ?_
  refine h_bipush (12 : Int32) dX8_readCase_175 k_bipush_12 ?_
  refine h_dup2 dX8_readCase_177 (fun _ => rfl) (fun _ => rfl) ?_
  refine al_50  12 cl_12 dX8_readCase_178 rfl ?_
  refine h_iconst (1 : Int32) dX8_readCase_179 k_iconst_1 ?_
  refine h_iadd dX8_readCase_180 ?_
  obtain ⟨I1', e1, h⟩ := bnd_some h
  refine as_50  12 cl_12 dX8_readCase_181 rfl ?_
  refine h_nmI e1 ?_
  cases h
  exact h_vret dX8_readCase_182 rfl E
def f_X8_readCase_136 (k70 : Mem → Int32 → Int32 → Option (Mem))  (I : Mem) (v1 : Int32) (v2 : Int32) (v3 : Int32) : Option (Mem) :=
  (f_X8_readNumber I (0 : Int32) (9 : Int32)).bind fun y1 =>
  if (y1.2 8 0 0 21) = 0 then (gd (inb (v1 + v3) 108) <|
  bnd (upd4 y1.2 57 0 0 ((v1 + v3).toNatClampNeg) y1.1) fun I1' =>
  k70 I1' v1 (v2 + (1 : Int32))) else (k70 y1.2 v1 v2)
theorem b_X8_readCase_136 (X : CX) (Q : State → Prop) {I : Mem} {P : PMem} {O : Nat → Int64} {D : Bool} {n : Nat} {k70 : Mem → Int32 → Int32 → Option (Mem)} {v1 : Int32} {v2 : Int32} {v3 : Int32} {r : (Mem)}  (H70 : ∀ (I : Mem) (v1 : Int32) (v2 : Int32), k70 I v1 v2 = some r → Here X cX8_readCase RX8 5 (none) 5 n 70 [some (.inr (.inr (8, 0, 0))), some (.inl v1), some (.inl v2), none, none] [] I P O D n Q) (h : f_X8_readCase_136 k70 I v1 v2 v3 = some r) (E : EndR X cX8_readCase RX8 5 (none) 5 n none r P O D Q) : Here X cX8_readCase RX8 5 (none) 5 n 136 [some (.inr (.inr (8, 0, 0))), some (.inl v1), some (.inl v2), some (.inl v3), none] [] I P O D n Q := by
  unfold f_X8_readCase_136 at h
  refine h_aload_n dX8_readCase_136 rfl ?_
  refine h_iconst (0 : Int32) dX8_readCase_137 k_iconst_0 ?_
  refine h_bipush (9 : Int32) dX8_readCase_138 k_bipush_9 ?_
  obtain ⟨y1, hh1, h⟩ := obd_some h
  refine h_cVi [.inl (0 : Int32), .inl (9 : Int32)] (m_X8_readNumber  hh1) cw_X8_230 dX8_readCase_140 rfl ok_8 (by decide) rfl (Or.inr rfl) rfl ?_
  refine h_istore dX8_readCase_143 (by decide) rfl ?_
  refine h_aload_n dX8_readCase_145 rfl ?_
  refine g_X8_199  dX8_readCase_146 ?_
  refine h_if_eq (tgt := 155) dX8_readCase_149 (by decide) (fun q1 => ?_) (fun q1 => ?_)
  · rw [if_pos q1] at h
    refine h_aload_n dX8_readCase_155 rfl ?_
    refine g_X8_55  dX8_readCase_156 ?_
    refine h_iload_n dX8_readCase_159 rfl ?_
    refine h_iload_n dX8_readCase_160 rfl ?_
    refine h_iadd dX8_readCase_161 ?_
    refine h_iload dX8_readCase_162 rfl ?_
    obtain ⟨g1, h⟩ := gd_some h
    obtain ⟨I1', e1, h⟩ := bnd_some h
    refine as_57  ((v1 + v3).toNatClampNeg) rfl dX8_readCase_164 g1 ?_
    refine h_nmI e1 ?_
    refine h_iinc (1 : Int32) dX8_readCase_165 rfl k_iinc_1 (by decide) rfl ?_
    refine h_goto (tgt := 70) dX8_readCase_168 (by decide) ?_
    exact h_mask [true, true, true, false, false] (H70 _ _ _ h)
  · rw [if_neg q1] at h
    refine h_goto (tgt := 70) dX8_readCase_152 (by decide) ?_
    exact h_mask [true, true, true, false, false] (H70 _ _ _ h)
def f_X8_readCase_125 (k70 : Mem → Int32 → Int32 → Option (Mem))  (I : Mem) (v1 : Int32) (v2 : Int32) (v3 : Int32) : Option (Mem) :=
  if (I 8 0 0 21) = 0 then ((f_X8_stepOn I).bind fun y1 =>
  f_X8_readCase_136 k70 y1 v1 v2 v3) else (f_X8_readCase_136 k70 I v1 v2 v3)
theorem b_X8_readCase_125 (X : CX) (Q : State → Prop) {I : Mem} {P : PMem} {O : Nat → Int64} {D : Bool} {n : Nat} {k70 : Mem → Int32 → Int32 → Option (Mem)} {v1 : Int32} {v2 : Int32} {v3 : Int32} {r : (Mem)}  (H70 : ∀ (I : Mem) (v1 : Int32) (v2 : Int32), k70 I v1 v2 = some r → Here X cX8_readCase RX8 5 (none) 5 n 70 [some (.inr (.inr (8, 0, 0))), some (.inl v1), some (.inl v2), none, none] [] I P O D n Q) (h : f_X8_readCase_125 k70 I v1 v2 v3 = some r) (E : EndR X cX8_readCase RX8 5 (none) 5 n none r P O D Q) : Here X cX8_readCase RX8 5 (none) 5 n 125 [some (.inr (.inr (8, 0, 0))), some (.inl v1), some (.inl v2), some (.inl v3), none] [] I P O D n Q := by
  unfold f_X8_readCase_125 at h
  refine h_aload_n dX8_readCase_125 rfl ?_
  refine g_X8_199  dX8_readCase_126 ?_
  refine h_if_ne (tgt := 136) dX8_readCase_129 (by decide) (fun q1 => ?_) (fun q1 => ?_)
  · rw [if_neg q1] at h
    exact (b_X8_readCase_136 X Q H70  h E)
  · rw [if_pos q1] at h
    refine h_aload_n dX8_readCase_132 rfl ?_
    obtain ⟨y1, hh1, h⟩ := obd_some h
    refine h_cVv [] (m_X8_stepOn  hh1) cw_X8_224 dX8_readCase_133 rfl ok_8 (by decide) rfl (Or.inr rfl) rfl ?_
    exact (b_X8_readCase_136 X Q H70  h E)
def f_X8_readCase_96 (k70 : Mem → Int32 → Int32 → Option (Mem))  (I : Mem) (v1 : Int32) (v2 : Int32) : Option (Mem) :=
  (f_X8_townNow I).bind fun y1 =>
  if (y1.2 8 0 0 21) = 0 then (gd (inb (v1 + y1.1) 108) <|
  if (y1.2 57 0 0 ((v1 + y1.1).toNatClampNeg)) = (-1 : Int32) then (f_X8_readCase_125 k70 y1.2 v1 v2 y1.1) else ((f_X8_wrong y1.2 (4 : Int32)).bind fun y2 =>
  f_X8_readCase_125 k70 y2 v1 v2 y1.1)) else (f_X8_readCase_125 k70 y1.2 v1 v2 y1.1)
theorem b_X8_readCase_96 (X : CX) (Q : State → Prop) {I : Mem} {P : PMem} {O : Nat → Int64} {D : Bool} {n : Nat} {k70 : Mem → Int32 → Int32 → Option (Mem)} {v1 : Int32} {v2 : Int32} {r : (Mem)}  (H70 : ∀ (I : Mem) (v1 : Int32) (v2 : Int32), k70 I v1 v2 = some r → Here X cX8_readCase RX8 5 (none) 5 n 70 [some (.inr (.inr (8, 0, 0))), some (.inl v1), some (.inl v2), none, none] [] I P O D n Q) (h : f_X8_readCase_96 k70 I v1 v2 = some r) (E : EndR X cX8_readCase RX8 5 (none) 5 n none r P O D Q) : Here X cX8_readCase RX8 5 (none) 5 n 96 [some (.inr (.inr (8, 0, 0))), some (.inl v1), some (.inl v2), none, none] [] I P O D n Q := by
  unfold f_X8_readCase_96 at h
  refine h_aload_n dX8_readCase_96 rfl ?_
  obtain ⟨y1, hh1, h⟩ := obd_some h
  refine h_cVi [] (m_X8_townNow  hh1) cw_X8_273 dX8_readCase_97 rfl ok_8 (by decide) rfl (Or.inr rfl) rfl ?_
  refine h_istore_n dX8_readCase_100 (by decide) rfl ?_
  refine h_aload_n dX8_readCase_101 rfl ?_
  refine g_X8_199  dX8_readCase_102 ?_
  refine h_if_ne (tgt := 125) dX8_readCase_105 (by decide) (fun q1 => ?_) (fun q1 => ?_)
  · rw [if_neg q1] at h
    exact (b_X8_readCase_125 X Q H70  h E)
  · rw [if_pos q1] at h
    refine h_aload_n dX8_readCase_108 rfl ?_
    refine g_X8_55  dX8_readCase_109 ?_
    refine h_iload_n dX8_readCase_112 rfl ?_
    refine h_iload_n dX8_readCase_113 rfl ?_
    refine h_iadd dX8_readCase_114 ?_
    obtain ⟨g1, h⟩ := gd_some h
    refine al_57  ((v1 + y1.1).toNatClampNeg) rfl dX8_readCase_115 g1 ?_
    refine h_iconst (-1 : Int32) dX8_readCase_116 k_iconst_m1 ?_
    refine h_icmp_eq (tgt := 125) dX8_readCase_117 (by decide) (fun q2 => ?_) (fun q2 => ?_)
    · rw [if_pos q2] at h
      exact (b_X8_readCase_125 X Q H70  h E)
    · rw [if_neg q2] at h
      refine h_aload_n dX8_readCase_120 rfl ?_
      refine h_iconst (4 : Int32) dX8_readCase_121 k_iconst_4 ?_
      obtain ⟨y2, hh2, h⟩ := obd_some h
      refine h_cVv [.inl (4 : Int32)] (m_X8_wrong  hh2) cw_X8_220 dX8_readCase_122 rfl ok_8 (by decide) rfl (Or.inr rfl) rfl ?_
      exact (b_X8_readCase_125 X Q H70  h E)
def f_X8_readCase_70   : Nat → Mem → Int32 → Int32 → Option (Mem)
  | 0, _, _, _ => none
  | fu + 1, I, v1, v2 =>
    if (I 8 0 0 21) = 0 then (if (I 8 0 0 17) = (2 : Int32) then (if v2 = (6 : Int32) then ((f_X8_wrong I (2 : Int32)).bind fun y1 =>
    f_X8_readCase_96 (f_X8_readCase_70 fu) y1 v1 v2) else (f_X8_readCase_96 (f_X8_readCase_70 fu) I v1 v2)) else (f_X8_readCase_171 I)) else (f_X8_readCase_171 I)
theorem b_X8_readCase_70 (X : CX) (Q : State → Prop) {P : PMem} {O : Nat → Int64} {D : Bool} {n : Nat} {r : (Mem)}  : ∀ (fu : Nat) {I : Mem} {v1 : Int32} {v2 : Int32}, f_X8_readCase_70 fu I v1 v2 = some r → EndR X cX8_readCase RX8 5 (none) 5 n none r P O D Q → Here X cX8_readCase RX8 5 (none) 5 n 70 [some (.inr (.inr (8, 0, 0))), some (.inl v1), some (.inl v2), none, none] [] I P O D n Q := by
  intro fu
  induction fu with
  | zero => intro I v1 v2 h E; cases h
  | succ fu ih =>
  intro I v1 v2 h E
  have H70 : ∀ (I : Mem) (v1 : Int32) (v2 : Int32), f_X8_readCase_70 fu I v1 v2 = some r → Here X cX8_readCase RX8 5 (none) 5 n 70 [some (.inr (.inr (8, 0, 0))), some (.inl v1), some (.inl v2), none, none] [] I P O D n Q := fun _ _ _ b => ih b E
  simp only [f_X8_readCase_70] at h
  refine h_aload_n dX8_readCase_70 rfl ?_
  refine g_X8_199  dX8_readCase_71 ?_
  refine h_if_ne (tgt := 171) dX8_readCase_74 (by decide) (fun q1 => ?_) (fun q1 => ?_)
  · rw [if_neg q1] at h
    exact h_mask [true, false, false, false, false] (b_X8_readCase_171 X Q  h E)
  · rw [if_pos q1] at h
    refine h_aload_n dX8_readCase_77 rfl ?_
    refine g_X8_173  dX8_readCase_78 ?_
    refine h_iconst (2 : Int32) dX8_readCase_81 k_iconst_2 ?_
    refine h_icmp_ne (tgt := 171) dX8_readCase_82 (by decide) (fun q2 => ?_) (fun q2 => ?_)
    · rw [if_neg q2] at h
      exact h_mask [true, false, false, false, false] (b_X8_readCase_171 X Q  h E)
    · rw [if_pos q2] at h
      refine h_iload_n dX8_readCase_85 rfl ?_
      refine h_bipush (6 : Int32) dX8_readCase_86 k_bipush_6 ?_
      refine h_icmp_ne (tgt := 96) dX8_readCase_88 (by decide) (fun q3 => ?_) (fun q3 => ?_)
      · rw [if_neg q3] at h
        exact (b_X8_readCase_96 X Q H70  h E)
      · rw [if_pos q3] at h
        refine h_aload_n dX8_readCase_91 rfl ?_
        refine h_iconst (2 : Int32) dX8_readCase_92 k_iconst_2 ?_
        obtain ⟨y1, hh1, h⟩ := obd_some h
        refine h_cVv [.inl (2 : Int32)] (m_X8_wrong  hh1) cw_X8_220 dX8_readCase_93 rfl ok_8 (by decide) rfl (Or.inr rfl) rfl ?_
        exact (b_X8_readCase_96 X Q H70  h E)
def f_X8_readCase_27   : Nat → Mem → Int32 → Int32 → Option (Mem)
  | 0, _, _, _ => none
  | fu + 1, I, v1, v2 =>
    if (9 : Int32) ≤ v2 then (if (I 8 0 0 21) = 0 then (if (I 8 0 0 17) = (2 : Int32) then (f_X8_readCase_70 FU I v1 (0 : Int32)) else ((f_X8_wrong I (1 : Int32)).bind fun y1 =>
    f_X8_readCase_70 FU y1 v1 (0 : Int32))) else (f_X8_readCase_70 FU I v1 (0 : Int32))) else (gd (inb (v1 + v2) 108) <|
    bnd (upd4 I 57 0 0 ((v1 + v2).toNatClampNeg) (-1 : Int32)) fun I1' =>
    (f_X8_readCase_27 fu) I1' v1 (v2 + (1 : Int32)))
theorem b_X8_readCase_27 (X : CX) (Q : State → Prop) {P : PMem} {O : Nat → Int64} {D : Bool} {n : Nat} {r : (Mem)}  : ∀ (fu : Nat) {I : Mem} {v1 : Int32} {v2 : Int32}, f_X8_readCase_27 fu I v1 v2 = some r → EndR X cX8_readCase RX8 5 (none) 5 n none r P O D Q → Here X cX8_readCase RX8 5 (none) 5 n 27 [some (.inr (.inr (8, 0, 0))), some (.inl v1), some (.inl v2), none, none] [] I P O D n Q := by
  intro fu
  induction fu with
  | zero => intro I v1 v2 h E; cases h
  | succ fu ih =>
  intro I v1 v2 h E
  have H27 : ∀ (I : Mem) (v1 : Int32) (v2 : Int32), f_X8_readCase_27 fu I v1 v2 = some r → Here X cX8_readCase RX8 5 (none) 5 n 27 [some (.inr (.inr (8, 0, 0))), some (.inl v1), some (.inl v2), none, none] [] I P O D n Q := fun _ _ _ b => ih b E
  simp only [f_X8_readCase_27] at h
  refine h_iload_n dX8_readCase_27 rfl ?_
  refine h_bipush (9 : Int32) dX8_readCase_28 k_bipush_9 ?_
  refine h_icmp_ge (tgt := 48) dX8_readCase_30 (by decide) (fun q1 => ?_) (fun q1 => ?_)
  · rw [if_pos q1] at h
    refine h_iconst (0 : Int32) dX8_readCase_48 k_iconst_0 ?_
    refine h_istore_n dX8_readCase_49 (by decide) rfl ?_
    refine h_aload_n dX8_readCase_50 rfl ?_
    refine g_X8_199  dX8_readCase_51 ?_
    refine h_if_ne (tgt := 70) dX8_readCase_54 (by decide) (fun q2 => ?_) (fun q2 => ?_)
    · rw [if_neg q2] at h
      exact (b_X8_readCase_70 X Q FU  h E)
    · rw [if_pos q2] at h
      refine h_aload_n dX8_readCase_57 rfl ?_
      refine g_X8_173  dX8_readCase_58 ?_
      refine h_iconst (2 : Int32) dX8_readCase_61 k_iconst_2 ?_
      refine h_icmp_eq (tgt := 70) dX8_readCase_62 (by decide) (fun q3 => ?_) (fun q3 => ?_)
      · rw [if_pos q3] at h
        exact (b_X8_readCase_70 X Q FU  h E)
      · rw [if_neg q3] at h
        refine h_aload_n dX8_readCase_65 rfl ?_
        refine h_iconst (1 : Int32) dX8_readCase_66 k_iconst_1 ?_
        obtain ⟨y1, hh1, h⟩ := obd_some h
        refine h_cVv [.inl (1 : Int32)] (m_X8_wrong  hh1) cw_X8_220 dX8_readCase_67 rfl ok_8 (by decide) rfl (Or.inr rfl) rfl ?_
        exact (b_X8_readCase_70 X Q FU  h E)
  · rw [if_neg q1] at h
    refine h_aload_n dX8_readCase_33 rfl ?_
    refine g_X8_55  dX8_readCase_34 ?_
    refine h_iload_n dX8_readCase_37 rfl ?_
    refine h_iload_n dX8_readCase_38 rfl ?_
    refine h_iadd dX8_readCase_39 ?_
    refine h_iconst (-1 : Int32) dX8_readCase_40 k_iconst_m1 ?_
    obtain ⟨g1, h⟩ := gd_some h
    obtain ⟨I1', e1, h⟩ := bnd_some h
    refine as_57  ((v1 + v2).toNatClampNeg) rfl dX8_readCase_41 g1 ?_
    refine h_nmI e1 ?_
    refine h_iinc (1 : Int32) dX8_readCase_42 rfl k_iinc_1 (by decide) rfl ?_
    refine h_goto (tgt := 27) dX8_readCase_45 (by decide) ?_
    exact (H27 _ _ _ h)
def f_X8_readCase   (I : Mem) : Option (Mem) :=
  (f_X8_another I (5 : Int32) (6 : Int32)).bind fun y1 =>
  if y1.1 = 0 then (some y1.2) else (bnd ((9 : Int32) * ((6 : Int32) + (y1.2 50 0 0 12))) fun x1 =>
  f_X8_readCase_27 FU y1.2 x1 (0 : Int32))
theorem b_X8_readCase (X : CX) (Q : State → Prop) {I : Mem} {P : PMem} {O : Nat → Int64} {D : Bool} {n : Nat} {r : (Mem)}  (h : f_X8_readCase I = some r) (E : EndR X cX8_readCase RX8 5 (none) 5 n none r P O D Q) : Here X cX8_readCase RX8 5 (none) 5 n 0 [some (.inr (.inr (8, 0, 0))), none, none, none, none] [] I P O D n Q := by
  unfold f_X8_readCase at h
  refine h_aload_n dX8_readCase_0 rfl ?_
  refine h_iconst (5 : Int32) dX8_readCase_1 k_iconst_5 ?_
  refine h_bipush (6 : Int32) dX8_readCase_2 k_bipush_6 ?_
  obtain ⟨y1, hh1, h⟩ := obd_some h
  refine h_cVi [.inl (5 : Int32), .inl (6 : Int32)] (m_X8_another  hh1) cw_X8_267 dX8_readCase_4 rfl ok_8 (by decide) rfl (Or.inr rfl) rfl ?_
  refine h_if_ne (tgt := 11) dX8_readCase_7 (by decide) (fun q1 => ?_) (fun q1 => ?_)
  · rw [if_neg q1] at h
    refine h_bipush (9 : Int32) dX8_readCase_11 k_bipush_9 ?_
    refine h_bipush (6 : Int32) dX8_readCase_13 k_bipush_6 ?_
    refine h_aload_n dX8_readCase_15 rfl ?_
    refine g_X8_34  dX8_readCase_16 ?_
    refine h_bipush (12 : Int32) dX8_readCase_19 k_bipush_12 ?_
    refine al_50  12 cl_12 dX8_readCase_21 rfl ?_
    refine h_iadd dX8_readCase_22 ?_
    refine h_imul dX8_readCase_23 ?_
    obtain ⟨x1, e1, h⟩ := bnd_some h
    refine h_nmv e1 ?_
    refine h_istore_n dX8_readCase_24 (by decide) rfl ?_
    refine h_iconst (0 : Int32) dX8_readCase_25 k_iconst_0 ?_
    refine h_istore_n dX8_readCase_26 (by decide) rfl ?_
    exact (b_X8_readCase_27 X Q FU  h E)
  · rw [if_pos q1] at h
    cases h
    exact h_vret dX8_readCase_10 rfl E
theorem m_X8_readCase {I : Mem} {P : PMem} {O : Nat → Int64} {D : Bool} {n : Nat}  {r : (Mem)}  (h : f_X8_readCase I = some r) : MethR yX8_readCase cX8_readCase 5 (none) 5 [.inr (.inr (8, 0, 0))] I P O D n none r P O D n := meth_R (Nat.le_refl _) (by decide) rfl (Nat.le_of_ble_eq_true rfl) rfl (fun X Q E => b_X8_readCase X Q  h E)
def f_X8_readLine_163   (I : Mem) (v1 : Int32) (v2 : Int32) : Option ((Int32 × Mem) ⊕ Nat) :=
  (f_X8_mark I (59 : Int32)).bind fun y1 =>
  some (Sum.inl ((v1 ||| v2), y1))
theorem b_X8_readLine_163 (X : CX) (Q : State → Prop) {I : Mem} {P : PMem} {O : Nat → Int64} {D : Bool} {n : Nat} {v1 : Int32} {v2 : Int32} {r : (Int32 × Mem)}  (h : f_X8_readLine_163 I v1 v2 = some (Sum.inl r)) (E : EndR X cX8_readLine RX8 4 (some .int) 161 n (some (.inl r.1)) r.2 P O D Q) : Here X cX8_readLine RX8 4 (some .int) 161 n 163 [some (.inr (.inr (8, 0, 0))), some (.inl v1), some (.inl v2), none] [] I P O D n Q := by
  unfold f_X8_readLine_163 at h
  refine h_aload_n dX8_readLine_163 rfl ?_
  refine h_bipush (59 : Int32) dX8_readLine_164 k_bipush_59 ?_
  obtain ⟨y1, hh1, h⟩ := obd_some h
  refine h_cVv [.inl (59 : Int32)] (m_X8_mark  hh1) cw_X8_240 dX8_readLine_166 rfl ok_8 (by decide) rfl (Or.inr rfl) rfl ?_
  refine h_iload_n dX8_readLine_169 rfl ?_
  refine h_iload_n dX8_readLine_170 rfl ?_
  refine h_ior dX8_readLine_171 ?_
  cases h
  exact h_iret dX8_readLine_172 rfl E
theorem bx_X8_readLine_163 (X : CX) (Q : State → Prop) {I : Mem} {P : PMem} {O : Nat → Int64} {D : Bool} {n : Nat} {v1 : Int32} {v2 : Int32} {r : Nat}  (h : f_X8_readLine_163 I v1 v2 = some (Sum.inr r)) (E : EndX X cX8_readLine RX8 4 (some .int) 161 (n + 1) r I P O D Q) : Here X cX8_readLine RX8 4 (some .int) 161 (n + 1) 163 [some (.inr (.inr (8, 0, 0))), some (.inl v1), some (.inl v2), none] [] I P O D n Q := by
  unfold f_X8_readLine_163 at h
  refine h_aload_n dX8_readLine_163 rfl ?_
  refine h_bipush (59 : Int32) dX8_readLine_164 k_bipush_59 ?_
  obtain ⟨y1, hh1, h⟩ := obd_some h
  refine h_cVv [.inl (59 : Int32)] (m_X8_mark  hh1) cw_X8_240 dX8_readLine_166 rfl ok_8 (by decide) rfl (Or.inr rfl) rfl ?_
  refine h_iload_n dX8_readLine_169 rfl ?_
  refine h_iload_n dX8_readLine_170 rfl ?_
  refine h_ior dX8_readLine_171 ?_
  cases h
def f_X8_readLine_65   (I : Mem) (v1 : Int32) (v2 : Int32) : Option ((Int32 × Mem) ⊕ Nat) :=
  if v2 = (1 : Int32) then ((f_X8_readNumber I (1 : Int32) (40 : Int32)).bind fun y2 =>
  bnd (upd4 y2.2 50 0 0 10 y2.1) fun I1' =>
  f_X8_readLine_163 I1' v1 v2) else (thb (F_X8_readExpression 8 I (0 : Int32)) fun y1 =>
  f_X8_readLine_163 y1 v1 v2)
theorem b_X8_readLine_65 (X : CX) (Q : State → Prop) {I : Mem} {P : PMem} {O : Nat → Int64} {D : Bool} {n : Nat} {v1 : Int32} {v2 : Int32} {r : (Int32 × Mem)}  (h : f_X8_readLine_65 I v1 v2 = some (Sum.inl r)) (E : EndR X cX8_readLine RX8 4 (some .int) 161 n (some (.inl r.1)) r.2 P O D Q) : Here X cX8_readLine RX8 4 (some .int) 161 n 65 [some (.inr (.inr (8, 0, 0))), some (.inl v1), some (.inl v2), none] [] I P O D n Q := by
  unfold f_X8_readLine_65 at h
  refine h_iload_n dX8_readLine_65 rfl ?_
  refine h_iconst (1 : Int32) dX8_readLine_66 k_iconst_1 ?_
  refine h_icmp_ne (tgt := 87) dX8_readLine_67 (by decide) (fun q1 => ?_) (fun q1 => ?_)
  · rw [if_neg q1] at h
    refine h_aload_n dX8_readLine_87 rfl ?_
    refine h_iconst (0 : Int32) dX8_readLine_88 k_iconst_0 ?_
    obtain ⟨y1, hh1, h⟩ := thb_R h
    refine h_cVv [.inl (0 : Int32)] (mF_X8_readExpression 8  hh1) cw_X8_243 dX8_readLine_89 rfl ok_8 (by decide) rfl (Or.inr rfl) rfl ?_
    refine h_goto (tgt := 163) dX8_readLine_92 (by decide) ?_
    exact (b_X8_readLine_163 X Q  h E)
  · rw [if_pos q1] at h
    refine h_aload_n dX8_readLine_70 rfl ?_
    refine g_X8_34  dX8_readLine_71 ?_
    refine h_bipush (10 : Int32) dX8_readLine_74 k_bipush_10 ?_
    refine h_aload_n dX8_readLine_76 rfl ?_
    refine h_iconst (1 : Int32) dX8_readLine_77 k_iconst_1 ?_
    refine h_bipush (40 : Int32) dX8_readLine_78 k_bipush_40 ?_
    obtain ⟨y2, hh2, h⟩ := obd_some h
    refine h_cVi [.inl (1 : Int32), .inl (40 : Int32)] (m_X8_readNumber  hh2) cw_X8_230 dX8_readLine_80 rfl ok_8 (by decide) rfl (Or.inr rfl) rfl ?_
    obtain ⟨I1', e1, h⟩ := bnd_some h
    refine as_50  10 cl_10 dX8_readLine_83 rfl ?_
    refine h_nmI e1 ?_
    refine h_goto (tgt := 163) dX8_readLine_84 (by decide) ?_
    exact (b_X8_readLine_163 X Q  h E)
theorem bx_X8_readLine_65 (X : CX) (Q : State → Prop) {I : Mem} {P : PMem} {O : Nat → Int64} {D : Bool} {n : Nat} {v1 : Int32} {v2 : Int32} {r : Nat}  (h : f_X8_readLine_65 I v1 v2 = some (Sum.inr r)) (E : EndX X cX8_readLine RX8 4 (some .int) 161 (n + 1) r I P O D Q) : Here X cX8_readLine RX8 4 (some .int) 161 (n + 1) 65 [some (.inr (.inr (8, 0, 0))), some (.inl v1), some (.inl v2), none] [] I P O D n Q := by
  unfold f_X8_readLine_65 at h
  refine h_iload_n dX8_readLine_65 rfl ?_
  refine h_iconst (1 : Int32) dX8_readLine_66 k_iconst_1 ?_
  refine h_icmp_ne (tgt := 87) dX8_readLine_67 (by decide) (fun q1 => ?_) (fun q1 => ?_)
  · rw [if_neg q1] at h
    refine h_aload_n dX8_readLine_87 rfl ?_
    refine h_iconst (0 : Int32) dX8_readLine_88 k_iconst_0 ?_
    rcases thb_X h with hh1 | ⟨y1, hh1, h⟩
    · exact h_callVX (as := [.inl (0 : Int32)]) (mx_X8_readExpression  hh1) cw_X8_243 dX8_readLine_89 rfl ok_8 (by decide) rfl rfl E
    refine h_cVv [.inl (0 : Int32)] (mF_X8_readExpression 8  hh1) cw_X8_243 dX8_readLine_89 rfl ok_8 (by decide) rfl (Or.inr rfl) rfl ?_
    refine h_goto (tgt := 163) dX8_readLine_92 (by decide) ?_
    exact (bx_X8_readLine_163 X Q  h E)
  · rw [if_pos q1] at h
    refine h_aload_n dX8_readLine_70 rfl ?_
    refine g_X8_34  dX8_readLine_71 ?_
    refine h_bipush (10 : Int32) dX8_readLine_74 k_bipush_10 ?_
    refine h_aload_n dX8_readLine_76 rfl ?_
    refine h_iconst (1 : Int32) dX8_readLine_77 k_iconst_1 ?_
    refine h_bipush (40 : Int32) dX8_readLine_78 k_bipush_40 ?_
    obtain ⟨y2, hh2, h⟩ := obd_some h
    refine h_cVi [.inl (1 : Int32), .inl (40 : Int32)] (m_X8_readNumber  hh2) cw_X8_230 dX8_readLine_80 rfl ok_8 (by decide) rfl (Or.inr rfl) rfl ?_
    obtain ⟨I1', e1, h⟩ := bnd_some h
    refine as_50  10 cl_10 dX8_readLine_83 rfl ?_
    refine h_nmI e1 ?_
    refine h_goto (tgt := 163) dX8_readLine_84 (by decide) ?_
    exact (bx_X8_readLine_163 X Q  h E)
def f_X8_readLine_50   (I : Mem) (v1 : Int32) (v2 : Int32) (v3 : Int32) : Option ((Int32 × Mem) ⊕ Nat) :=
  if v2 ≤ 0 then (if v3 = (-1 : Int32) then (thb (f_X8_is I 6) fun y1 =>
  if y1 = 0 then (thb (f_X8_is I 23) fun y2 =>
  if y2 = 0 then (thb (f_X8_is I 10) fun y3 =>
  if y3 = 0 then ((f_X8_wrong I (1 : Int32)).bind fun y4 =>
  f_X8_readLine_163 y4 v1 v2) else ((f_X8_readCase I).bind fun y5 =>
  f_X8_readLine_163 y5 v1 v2)) else ((f_X8_readRoad I).bind fun y6 =>
  f_X8_readLine_163 y6 v1 v2)) else (thb (f_X8_readTown I) fun y7 =>
  f_X8_readLine_163 y7 v1 v2)) else ((f_X8_readJudge I v3).bind fun y8 =>
  f_X8_readLine_163 y8 v1 v2)) else (if (I 8 0 0 21) = 0 then ((f_X8_stepOn I).bind fun y9 =>
  f_X8_readLine_65 y9 v1 v2) else (f_X8_readLine_65 I v1 v2))
theorem b_X8_readLine_50 (X : CX) (Q : State → Prop) {I : Mem} {P : PMem} {O : Nat → Int64} {D : Bool} {n : Nat} {v1 : Int32} {v2 : Int32} {v3 : Int32} {r : (Int32 × Mem)}  (h : f_X8_readLine_50 I v1 v2 v3 = some (Sum.inl r)) (E : EndR X cX8_readLine RX8 4 (some .int) 161 n (some (.inl r.1)) r.2 P O D Q) : Here X cX8_readLine RX8 4 (some .int) 161 n 50 [some (.inr (.inr (8, 0, 0))), some (.inl v1), some (.inl v2), some (.inl v3)] [] I P O D n Q := by
  unfold f_X8_readLine_50 at h
  refine h_iload_n dX8_readLine_50 rfl ?_
  refine h_if_le (tgt := 95) dX8_readLine_51 (by decide) (fun q1 => ?_) (fun q1 => ?_)
  · rw [if_pos q1] at h
    refine h_iload_n dX8_readLine_95 rfl ?_
    refine h_iconst (-1 : Int32) dX8_readLine_96 k_iconst_m1 ?_
    refine h_icmp_eq (tgt := 108) dX8_readLine_97 (by decide) (fun q2 => ?_) (fun q2 => ?_)
    · rw [if_pos q2] at h
      refine h_aload_n dX8_readLine_108 rfl ?_
      refine h_ldcs (text := "town") (j := 6) dX8_readLine_109 (by decide) ?_
      obtain ⟨y1, hh1, h⟩ := thb_R h
      refine h_cVi [.inr (.inr (90, 6, 0))] (m_X8_is (by decide) hh1) cw_X8_213 dX8_readLine_111 rfl ok_8 (by decide) rfl (Or.inr rfl) rfl ?_
      refine h_if_eq (tgt := 124) dX8_readLine_114 (by decide) (fun q3 => ?_) (fun q3 => ?_)
      · rw [if_pos q3] at h
        refine h_aload_n dX8_readLine_124 rfl ?_
        refine h_ldcws (text := "road") (j := 23) dX8_readLine_125 (by decide) ?_
        obtain ⟨y2, hh2, h⟩ := thb_R h
        refine h_cVi [.inr (.inr (90, 23, 0))] (m_X8_is (by decide) hh2) cw_X8_213 dX8_readLine_128 rfl ok_8 (by decide) rfl (Or.inr rfl) rfl ?_
        refine h_if_eq (tgt := 141) dX8_readLine_131 (by decide) (fun q4 => ?_) (fun q4 => ?_)
        · rw [if_pos q4] at h
          refine h_aload_n dX8_readLine_141 rfl ?_
          refine h_ldcws (text := "case") (j := 10) dX8_readLine_142 (by decide) ?_
          obtain ⟨y3, hh3, h⟩ := thb_R h
          refine h_cVi [.inr (.inr (90, 10, 0))] (m_X8_is (by decide) hh3) cw_X8_213 dX8_readLine_145 rfl ok_8 (by decide) rfl (Or.inr rfl) rfl ?_
          refine h_if_eq (tgt := 158) dX8_readLine_148 (by decide) (fun q5 => ?_) (fun q5 => ?_)
          · rw [if_pos q5] at h
            refine h_aload_n dX8_readLine_158 rfl ?_
            refine h_iconst (1 : Int32) dX8_readLine_159 k_iconst_1 ?_
            obtain ⟨y4, hh4, h⟩ := obd_some h
            refine h_cVv [.inl (1 : Int32)] (m_X8_wrong  hh4) cw_X8_220 dX8_readLine_160 rfl ok_8 (by decide) rfl (Or.inr rfl) rfl ?_
            exact h_mask [true, true, true, false] (b_X8_readLine_163 X Q  h E)
          · rw [if_neg q5] at h
            refine h_aload_n dX8_readLine_151 rfl ?_
            obtain ⟨y5, hh5, h⟩ := obd_some h
            refine h_cVv [] (m_X8_readCase  hh5) cw_X8_295 dX8_readLine_152 rfl ok_8 (by decide) rfl (Or.inr rfl) rfl ?_
            refine h_goto (tgt := 163) dX8_readLine_155 (by decide) ?_
            exact h_mask [true, true, true, false] (b_X8_readLine_163 X Q  h E)
        · rw [if_neg q4] at h
          refine h_aload_n dX8_readLine_134 rfl ?_
          obtain ⟨y6, hh6, h⟩ := obd_some h
          refine h_cVv [] (m_X8_readRoad  hh6) cw_X8_290 dX8_readLine_135 rfl ok_8 (by decide) rfl (Or.inr rfl) rfl ?_
          refine h_goto (tgt := 163) dX8_readLine_138 (by decide) ?_
          exact h_mask [true, true, true, false] (b_X8_readLine_163 X Q  h E)
      · rw [if_neg q3] at h
        refine h_aload_n dX8_readLine_117 rfl ?_
        obtain ⟨y7, hh7, h⟩ := thb_R h
        refine h_cVv [] (m_X8_readTown  hh7) cw_X8_286 dX8_readLine_118 rfl ok_8 (by decide) rfl (Or.inr rfl) rfl ?_
        refine h_goto (tgt := 163) dX8_readLine_121 (by decide) ?_
        exact h_mask [true, true, true, false] (b_X8_readLine_163 X Q  h E)
    · rw [if_neg q2] at h
      refine h_aload_n dX8_readLine_100 rfl ?_
      refine h_iload_n dX8_readLine_101 rfl ?_
      obtain ⟨y8, hh8, h⟩ := obd_some h
      refine h_cVv [.inl v3] (m_X8_readJudge  hh8) cw_X8_283 dX8_readLine_102 rfl ok_8 (by decide) rfl (Or.inr rfl) rfl ?_
      refine h_goto (tgt := 163) dX8_readLine_105 (by decide) ?_
      exact h_mask [true, true, true, false] (b_X8_readLine_163 X Q  h E)
  · rw [if_neg q1] at h
    refine h_aload_n dX8_readLine_54 rfl ?_
    refine g_X8_199  dX8_readLine_55 ?_
    refine h_if_ne (tgt := 65) dX8_readLine_58 (by decide) (fun q6 => ?_) (fun q6 => ?_)
    · rw [if_neg q6] at h
      exact h_mask [true, true, true, false] (b_X8_readLine_65 X Q  h E)
    · rw [if_pos q6] at h
      refine h_aload_n dX8_readLine_61 rfl ?_
      obtain ⟨y9, hh9, h⟩ := obd_some h
      refine h_cVv [] (m_X8_stepOn  hh9) cw_X8_224 dX8_readLine_62 rfl ok_8 (by decide) rfl (Or.inr rfl) rfl ?_
      exact h_mask [true, true, true, false] (b_X8_readLine_65 X Q  h E)
theorem bx_X8_readLine_50 (X : CX) (Q : State → Prop) {I : Mem} {P : PMem} {O : Nat → Int64} {D : Bool} {n : Nat} {v1 : Int32} {v2 : Int32} {v3 : Int32} {r : Nat}  (h : f_X8_readLine_50 I v1 v2 v3 = some (Sum.inr r)) (E : EndX X cX8_readLine RX8 4 (some .int) 161 (n + 1) r I P O D Q) : Here X cX8_readLine RX8 4 (some .int) 161 (n + 1) 50 [some (.inr (.inr (8, 0, 0))), some (.inl v1), some (.inl v2), some (.inl v3)] [] I P O D n Q := by
  unfold f_X8_readLine_50 at h
  refine h_iload_n dX8_readLine_50 rfl ?_
  refine h_if_le (tgt := 95) dX8_readLine_51 (by decide) (fun q1 => ?_) (fun q1 => ?_)
  · rw [if_pos q1] at h
    refine h_iload_n dX8_readLine_95 rfl ?_
    refine h_iconst (-1 : Int32) dX8_readLine_96 k_iconst_m1 ?_
    refine h_icmp_eq (tgt := 108) dX8_readLine_97 (by decide) (fun q2 => ?_) (fun q2 => ?_)
    · rw [if_pos q2] at h
      refine h_aload_n dX8_readLine_108 rfl ?_
      refine h_ldcs (text := "town") (j := 6) dX8_readLine_109 (by decide) ?_
      rcases thb_X h with hh1 | ⟨y1, hh1, h⟩
      · exact h_callVX (as := [.inr (.inr (90, 6, 0))]) (mx_X8_is (by decide) hh1) cw_X8_213 dX8_readLine_111 rfl ok_8 (by decide) rfl rfl E
      refine h_cVi [.inr (.inr (90, 6, 0))] (m_X8_is (by decide) hh1) cw_X8_213 dX8_readLine_111 rfl ok_8 (by decide) rfl (Or.inr rfl) rfl ?_
      refine h_if_eq (tgt := 124) dX8_readLine_114 (by decide) (fun q3 => ?_) (fun q3 => ?_)
      · rw [if_pos q3] at h
        refine h_aload_n dX8_readLine_124 rfl ?_
        refine h_ldcws (text := "road") (j := 23) dX8_readLine_125 (by decide) ?_
        rcases thb_X h with hh2 | ⟨y2, hh2, h⟩
        · exact h_callVX (as := [.inr (.inr (90, 23, 0))]) (mx_X8_is (by decide) hh2) cw_X8_213 dX8_readLine_128 rfl ok_8 (by decide) rfl rfl E
        refine h_cVi [.inr (.inr (90, 23, 0))] (m_X8_is (by decide) hh2) cw_X8_213 dX8_readLine_128 rfl ok_8 (by decide) rfl (Or.inr rfl) rfl ?_
        refine h_if_eq (tgt := 141) dX8_readLine_131 (by decide) (fun q4 => ?_) (fun q4 => ?_)
        · rw [if_pos q4] at h
          refine h_aload_n dX8_readLine_141 rfl ?_
          refine h_ldcws (text := "case") (j := 10) dX8_readLine_142 (by decide) ?_
          rcases thb_X h with hh3 | ⟨y3, hh3, h⟩
          · exact h_callVX (as := [.inr (.inr (90, 10, 0))]) (mx_X8_is (by decide) hh3) cw_X8_213 dX8_readLine_145 rfl ok_8 (by decide) rfl rfl E
          refine h_cVi [.inr (.inr (90, 10, 0))] (m_X8_is (by decide) hh3) cw_X8_213 dX8_readLine_145 rfl ok_8 (by decide) rfl (Or.inr rfl) rfl ?_
          refine h_if_eq (tgt := 158) dX8_readLine_148 (by decide) (fun q5 => ?_) (fun q5 => ?_)
          · rw [if_pos q5] at h
            refine h_aload_n dX8_readLine_158 rfl ?_
            refine h_iconst (1 : Int32) dX8_readLine_159 k_iconst_1 ?_
            obtain ⟨y4, hh4, h⟩ := obd_some h
            refine h_cVv [.inl (1 : Int32)] (m_X8_wrong  hh4) cw_X8_220 dX8_readLine_160 rfl ok_8 (by decide) rfl (Or.inr rfl) rfl ?_
            exact h_mask [true, true, true, false] (bx_X8_readLine_163 X Q  h E)
          · rw [if_neg q5] at h
            refine h_aload_n dX8_readLine_151 rfl ?_
            obtain ⟨y5, hh5, h⟩ := obd_some h
            refine h_cVv [] (m_X8_readCase  hh5) cw_X8_295 dX8_readLine_152 rfl ok_8 (by decide) rfl (Or.inr rfl) rfl ?_
            refine h_goto (tgt := 163) dX8_readLine_155 (by decide) ?_
            exact h_mask [true, true, true, false] (bx_X8_readLine_163 X Q  h E)
        · rw [if_neg q4] at h
          refine h_aload_n dX8_readLine_134 rfl ?_
          obtain ⟨y6, hh6, h⟩ := obd_some h
          refine h_cVv [] (m_X8_readRoad  hh6) cw_X8_290 dX8_readLine_135 rfl ok_8 (by decide) rfl (Or.inr rfl) rfl ?_
          refine h_goto (tgt := 163) dX8_readLine_138 (by decide) ?_
          exact h_mask [true, true, true, false] (bx_X8_readLine_163 X Q  h E)
      · rw [if_neg q3] at h
        refine h_aload_n dX8_readLine_117 rfl ?_
        rcases thb_X h with hh7 | ⟨y7, hh7, h⟩
        · exact h_callVX (as := []) (mx_X8_readTown  hh7) cw_X8_286 dX8_readLine_118 rfl ok_8 (by decide) rfl rfl E
        refine h_cVv [] (m_X8_readTown  hh7) cw_X8_286 dX8_readLine_118 rfl ok_8 (by decide) rfl (Or.inr rfl) rfl ?_
        refine h_goto (tgt := 163) dX8_readLine_121 (by decide) ?_
        exact h_mask [true, true, true, false] (bx_X8_readLine_163 X Q  h E)
    · rw [if_neg q2] at h
      refine h_aload_n dX8_readLine_100 rfl ?_
      refine h_iload_n dX8_readLine_101 rfl ?_
      obtain ⟨y8, hh8, h⟩ := obd_some h
      refine h_cVv [.inl v3] (m_X8_readJudge  hh8) cw_X8_283 dX8_readLine_102 rfl ok_8 (by decide) rfl (Or.inr rfl) rfl ?_
      refine h_goto (tgt := 163) dX8_readLine_105 (by decide) ?_
      exact h_mask [true, true, true, false] (bx_X8_readLine_163 X Q  h E)
  · rw [if_neg q1] at h
    refine h_aload_n dX8_readLine_54 rfl ?_
    refine g_X8_199  dX8_readLine_55 ?_
    refine h_if_ne (tgt := 65) dX8_readLine_58 (by decide) (fun q6 => ?_) (fun q6 => ?_)
    · rw [if_neg q6] at h
      exact h_mask [true, true, true, false] (bx_X8_readLine_65 X Q  h E)
    · rw [if_pos q6] at h
      refine h_aload_n dX8_readLine_61 rfl ?_
      obtain ⟨y9, hh9, h⟩ := obd_some h
      refine h_cVv [] (m_X8_stepOn  hh9) cw_X8_224 dX8_readLine_62 rfl ok_8 (by decide) rfl (Or.inr rfl) rfl ?_
      exact h_mask [true, true, true, false] (bx_X8_readLine_65 X Q  h E)
def f_X8_readLine_29   (I : Mem) (v1 : Int32) (s0 : Int32) : Option ((Int32 × Mem) ⊕ Nat) :=
  thb (f_X8_which I 48) fun y1 =>
  if (s0 &&& v1) = 0 then (f_X8_readLine_50 I v1 s0 y1) else ((f_X8_wrong I (5 : Int32)).bind fun y2 =>
  f_X8_readLine_50 y2 v1 s0 y1)
theorem b_X8_readLine_29 (X : CX) (Q : State → Prop) {I : Mem} {P : PMem} {O : Nat → Int64} {D : Bool} {n : Nat} {v1 : Int32} {s0 : Int32} {r : (Int32 × Mem)}  (h : f_X8_readLine_29 I v1 s0 = some (Sum.inl r)) (E : EndR X cX8_readLine RX8 4 (some .int) 161 n (some (.inl r.1)) r.2 P O D Q) : Here X cX8_readLine RX8 4 (some .int) 161 n 29 [some (.inr (.inr (8, 0, 0))), some (.inl v1), none, none] [.inl s0] I P O D n Q := by
  unfold f_X8_readLine_29 at h
  refine h_istore_n dX8_readLine_29 (by decide) rfl ?_
  refine h_aload_n dX8_readLine_30 rfl ?_
  refine h_aload_n dX8_readLine_31 rfl ?_
  refine g_X8_17  dX8_readLine_32 ?_
  obtain ⟨y1, hh1, h⟩ := thb_R h
  refine h_cVi [.inr (.inr (48, 0, 0))] (m_X8_which (Or.inl rfl) hh1) cw_X8_236 dX8_readLine_35 rfl ok_8 (by decide) rfl (Or.inr rfl) rfl ?_
  refine h_istore_n dX8_readLine_38 (by decide) rfl ?_
  refine h_iload_n dX8_readLine_39 rfl ?_
  refine h_iload_n dX8_readLine_40 rfl ?_
  refine h_iand dX8_readLine_41 ?_
  refine h_if_eq (tgt := 50) dX8_readLine_42 (by decide) (fun q1 => ?_) (fun q1 => ?_)
  · rw [if_pos q1] at h
    exact (b_X8_readLine_50 X Q  h E)
  · rw [if_neg q1] at h
    refine h_aload_n dX8_readLine_45 rfl ?_
    refine h_iconst (5 : Int32) dX8_readLine_46 k_iconst_5 ?_
    obtain ⟨y2, hh2, h⟩ := obd_some h
    refine h_cVv [.inl (5 : Int32)] (m_X8_wrong  hh2) cw_X8_220 dX8_readLine_47 rfl ok_8 (by decide) rfl (Or.inr rfl) rfl ?_
    exact (b_X8_readLine_50 X Q  h E)
theorem bx_X8_readLine_29 (X : CX) (Q : State → Prop) {I : Mem} {P : PMem} {O : Nat → Int64} {D : Bool} {n : Nat} {v1 : Int32} {s0 : Int32} {r : Nat}  (h : f_X8_readLine_29 I v1 s0 = some (Sum.inr r)) (E : EndX X cX8_readLine RX8 4 (some .int) 161 (n + 1) r I P O D Q) : Here X cX8_readLine RX8 4 (some .int) 161 (n + 1) 29 [some (.inr (.inr (8, 0, 0))), some (.inl v1), none, none] [.inl s0] I P O D n Q := by
  unfold f_X8_readLine_29 at h
  refine h_istore_n dX8_readLine_29 (by decide) rfl ?_
  refine h_aload_n dX8_readLine_30 rfl ?_
  refine h_aload_n dX8_readLine_31 rfl ?_
  refine g_X8_17  dX8_readLine_32 ?_
  rcases thb_X h with hh1 | ⟨y1, hh1, h⟩
  · exact h_callVX (as := [.inr (.inr (48, 0, 0))]) (mx_X8_which (Or.inl rfl) hh1) cw_X8_236 dX8_readLine_35 rfl ok_8 (by decide) rfl rfl E
  refine h_cVi [.inr (.inr (48, 0, 0))] (m_X8_which (Or.inl rfl) hh1) cw_X8_236 dX8_readLine_35 rfl ok_8 (by decide) rfl (Or.inr rfl) rfl ?_
  refine h_istore_n dX8_readLine_38 (by decide) rfl ?_
  refine h_iload_n dX8_readLine_39 rfl ?_
  refine h_iload_n dX8_readLine_40 rfl ?_
  refine h_iand dX8_readLine_41 ?_
  refine h_if_eq (tgt := 50) dX8_readLine_42 (by decide) (fun q1 => ?_) (fun q1 => ?_)
  · rw [if_pos q1] at h
    exact (bx_X8_readLine_50 X Q  h E)
  · rw [if_neg q1] at h
    refine h_aload_n dX8_readLine_45 rfl ?_
    refine h_iconst (5 : Int32) dX8_readLine_46 k_iconst_5 ?_
    obtain ⟨y2, hh2, h⟩ := obd_some h
    refine h_cVv [.inl (5 : Int32)] (m_X8_wrong  hh2) cw_X8_220 dX8_readLine_47 rfl ok_8 (by decide) rfl (Or.inr rfl) rfl ?_
    exact (bx_X8_readLine_50 X Q  h E)
def f_X8_readLine   (I : Mem) (v1 : Int32) : Option ((Int32 × Mem) ⊕ Nat) :=
  thb (f_X8_is I 11) fun y1 =>
  if y1 = 0 then (thb (f_X8_is I 13) fun y2 =>
  if y2 = 0 then (f_X8_readLine_29 I v1 (0 : Int32)) else (f_X8_readLine_29 I v1 (2 : Int32))) else (f_X8_readLine_29 I v1 (1 : Int32))
theorem b_X8_readLine (X : CX) (Q : State → Prop) {I : Mem} {P : PMem} {O : Nat → Int64} {D : Bool} {n : Nat} {v1 : Int32} {r : (Int32 × Mem)}  (h : f_X8_readLine I v1 = some (Sum.inl r)) (E : EndR X cX8_readLine RX8 4 (some .int) 161 n (some (.inl r.1)) r.2 P O D Q) : Here X cX8_readLine RX8 4 (some .int) 161 n 0 [some (.inr (.inr (8, 0, 0))), some (.inl v1), none, none] [] I P O D n Q := by
  unfold f_X8_readLine at h
  refine h_aload_n dX8_readLine_0 rfl ?_
  refine h_ldcws (text := "gossip") (j := 11) dX8_readLine_1 (by decide) ?_
  obtain ⟨y1, hh1, h⟩ := thb_R h
  refine h_cVi [.inr (.inr (90, 11, 0))] (m_X8_is (by decide) hh1) cw_X8_213 dX8_readLine_4 rfl ok_8 (by decide) rfl (Or.inr rfl) rfl ?_
  refine h_if_eq (tgt := 14) dX8_readLine_7 (by decide) (fun q1 => ?_) (fun q1 => ?_)
  · rw [if_pos q1] at h
    refine h_aload_n dX8_readLine_14 rfl ?_
    refine h_ldcws (text := "law") (j := 13) dX8_readLine_15 (by decide) ?_
    obtain ⟨y2, hh2, h⟩ := thb_R h
    refine h_cVi [.inr (.inr (90, 13, 0))] (m_X8_is (by decide) hh2) cw_X8_213 dX8_readLine_18 rfl ok_8 (by decide) rfl (Or.inr rfl) rfl ?_
    refine h_if_eq (tgt := 28) dX8_readLine_21 (by decide) (fun q2 => ?_) (fun q2 => ?_)
    · rw [if_pos q2] at h
      refine h_iconst (0 : Int32) dX8_readLine_28 k_iconst_0 ?_
      exact (b_X8_readLine_29 X Q  h E)
    · rw [if_neg q2] at h
      refine h_iconst (2 : Int32) dX8_readLine_24 k_iconst_2 ?_
      refine h_goto (tgt := 29) dX8_readLine_25 (by decide) ?_
      exact (b_X8_readLine_29 X Q  h E)
  · rw [if_neg q1] at h
    refine h_iconst (1 : Int32) dX8_readLine_10 k_iconst_1 ?_
    refine h_goto (tgt := 29) dX8_readLine_11 (by decide) ?_
    exact (b_X8_readLine_29 X Q  h E)
theorem bx_X8_readLine (X : CX) (Q : State → Prop) {I : Mem} {P : PMem} {O : Nat → Int64} {D : Bool} {n : Nat} {v1 : Int32} {r : Nat}  (h : f_X8_readLine I v1 = some (Sum.inr r)) (E : EndX X cX8_readLine RX8 4 (some .int) 161 (n + 1) r I P O D Q) : Here X cX8_readLine RX8 4 (some .int) 161 (n + 1) 0 [some (.inr (.inr (8, 0, 0))), some (.inl v1), none, none] [] I P O D n Q := by
  unfold f_X8_readLine at h
  refine h_aload_n dX8_readLine_0 rfl ?_
  refine h_ldcws (text := "gossip") (j := 11) dX8_readLine_1 (by decide) ?_
  rcases thb_X h with hh1 | ⟨y1, hh1, h⟩
  · exact h_callVX (as := [.inr (.inr (90, 11, 0))]) (mx_X8_is (by decide) hh1) cw_X8_213 dX8_readLine_4 rfl ok_8 (by decide) rfl rfl E
  refine h_cVi [.inr (.inr (90, 11, 0))] (m_X8_is (by decide) hh1) cw_X8_213 dX8_readLine_4 rfl ok_8 (by decide) rfl (Or.inr rfl) rfl ?_
  refine h_if_eq (tgt := 14) dX8_readLine_7 (by decide) (fun q1 => ?_) (fun q1 => ?_)
  · rw [if_pos q1] at h
    refine h_aload_n dX8_readLine_14 rfl ?_
    refine h_ldcws (text := "law") (j := 13) dX8_readLine_15 (by decide) ?_
    rcases thb_X h with hh2 | ⟨y2, hh2, h⟩
    · exact h_callVX (as := [.inr (.inr (90, 13, 0))]) (mx_X8_is (by decide) hh2) cw_X8_213 dX8_readLine_18 rfl ok_8 (by decide) rfl rfl E
    refine h_cVi [.inr (.inr (90, 13, 0))] (m_X8_is (by decide) hh2) cw_X8_213 dX8_readLine_18 rfl ok_8 (by decide) rfl (Or.inr rfl) rfl ?_
    refine h_if_eq (tgt := 28) dX8_readLine_21 (by decide) (fun q2 => ?_) (fun q2 => ?_)
    · rw [if_pos q2] at h
      refine h_iconst (0 : Int32) dX8_readLine_28 k_iconst_0 ?_
      exact (bx_X8_readLine_29 X Q  h E)
    · rw [if_neg q2] at h
      refine h_iconst (2 : Int32) dX8_readLine_24 k_iconst_2 ?_
      refine h_goto (tgt := 29) dX8_readLine_25 (by decide) ?_
      exact (bx_X8_readLine_29 X Q  h E)
  · rw [if_neg q1] at h
    refine h_iconst (1 : Int32) dX8_readLine_10 k_iconst_1 ?_
    refine h_goto (tgt := 29) dX8_readLine_11 (by decide) ?_
    exact (bx_X8_readLine_29 X Q  h E)
theorem m_X8_readLine {I : Mem} {P : PMem} {O : Nat → Int64} {D : Bool} {n : Nat} {v1 : Int32} {r : (Int32 × Mem)}  (h : f_X8_readLine I v1 = some (Sum.inl r)) : MethR yX8_readLine cX8_readLine 4 (some .int) 161 [.inr (.inr (8, 0, 0)), .inl v1] I P O D n (some (.inl r.1)) r.2 P O D n := meth_R (Nat.le_refl _) (by decide) rfl (Nat.le_of_ble_eq_true rfl) rfl (fun X Q E => b_X8_readLine X Q  h E)
theorem mx_X8_readLine {I : Mem} {P : PMem} {O : Nat → Int64} {D : Bool} {n : Nat} {v1 : Int32} {r : Nat}  (h : f_X8_readLine I v1 = some (Sum.inr r)) : MethX yX8_readLine cX8_readLine 4 (some .int) 161 [.inr (.inr (8, 0, 0)), .inl v1] I P O D n r I P O D (n + 1) := meth_X (Nat.le_succ _) (by decide) rfl (Nat.le_of_ble_eq_true rfl) rfl (fun X Q E => bx_X8_readLine X Q  h E)
