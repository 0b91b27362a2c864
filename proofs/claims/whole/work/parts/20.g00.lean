theorem dX0_beginAnew_0 : decode cX0_beginAnew 0 = .ok (.aload_n 1, 1) := by decide +kernel
theorem dX0_beginAnew_1 : decode cX0_beginAnew 1 = .ok (.getfield 39, 3) := by decide +kernel
theorem dX0_beginAnew_4 : decode cX0_beginAnew 4 = .ok (.iconst 0, 1) := by decide +kernel
theorem dX0_beginAnew_5 : decode cX0_beginAnew 5 = .ok (.aload_n 0, 1) := by decide +kernel
theorem dX0_beginAnew_6 : decode cX0_beginAnew 6 = .ok (.getfield 9, 3) := by decide +kernel
theorem dX0_beginAnew_9 : decode cX0_beginAnew 9 = .ok (.iconst 0, 1) := by decide +kernel
theorem dX0_beginAnew_10 : decode cX0_beginAnew 10 = .ok (.iconst 5, 1) := by decide +kernel
theorem dX0_beginAnew_11 : decode cX0_beginAnew 11 = .ok (.invokestatic 44, 3) := by decide +kernel
theorem dX0_beginAnew_14 : decode cX0_beginAnew 14 = .ok (.aload_n 0, 1) := by decide +kernel
theorem dX0_beginAnew_15 : decode cX0_beginAnew 15 = .ok (.aload_n 1, 1) := by decide +kernel
theorem dX0_beginAnew_16 : decode cX0_beginAnew 16 = .ok (.getfield 50, 3) := by decide +kernel
theorem dX0_beginAnew_19 : decode cX0_beginAnew 19 = .ok (.putfield 54, 3) := by decide +kernel
theorem dX0_beginAnew_22 : decode cX0_beginAnew 22 = .ok (.aload_n 0, 1) := by decide +kernel
theorem dX0_beginAnew_23 : decode cX0_beginAnew 23 = .ok (.getfield 20, 3) := by decide +kernel
theorem dX0_beginAnew_26 : decode cX0_beginAnew 26 = .ok (.iconst 0, 1) := by decide +kernel
theorem dX0_beginAnew_27 : decode cX0_beginAnew 27 = .ok (.putfield 55, 3) := by decide +kernel
theorem dX0_beginAnew_30 : decode cX0_beginAnew 30 = .ok (.aload_n 0, 1) := by decide +kernel
theorem dX0_beginAnew_31 : decode cX0_beginAnew 31 = .ok (.getfield 24, 3) := by decide +kernel
theorem dX0_beginAnew_34 : decode cX0_beginAnew 34 = .ok (.iconst 0, 1) := by decide +kernel
theorem dX0_beginAnew_35 : decode cX0_beginAnew 35 = .ok (.putfield 55, 3) := by decide +kernel
theorem dX0_beginAnew_38 : decode cX0_beginAnew 38 = .ok (.aload_n 0, 1) := by decide +kernel
theorem dX0_beginAnew_39 : decode cX0_beginAnew 39 = .ok (.getfield 27, 3) := by decide +kernel
theorem dX0_beginAnew_42 : decode cX0_beginAnew 42 = .ok (.iconst 0, 1) := by decide +kernel
theorem dX0_beginAnew_43 : decode cX0_beginAnew 43 = .ok (.putfield 55, 3) := by decide +kernel
theorem dX0_beginAnew_46 : decode cX0_beginAnew 46 = .ok (.aload_n 0, 1) := by decide +kernel
theorem dX0_beginAnew_47 : decode cX0_beginAnew 47 = .ok (.getfield 30, 3) := by decide +kernel
theorem dX0_beginAnew_50 : decode cX0_beginAnew 50 = .ok (.iconst 0, 1) := by decide +kernel
theorem dX0_beginAnew_51 : decode cX0_beginAnew 51 = .ok (.putfield 55, 3) := by decide +kernel
theorem dX0_beginAnew_54 : decode cX0_beginAnew 54 = .ok (.aload_n 0, 1) := by decide +kernel
theorem dX0_beginAnew_55 : decode cX0_beginAnew 55 = .ok (.getfield 33, 3) := by decide +kernel
theorem dX0_beginAnew_58 : decode cX0_beginAnew 58 = .ok (.iconst 0, 1) := by decide +kernel
theorem dX0_beginAnew_59 : decode cX0_beginAnew 59 = .ok (.putfield 55, 3) := by decide +kernel
theorem dX0_beginAnew_62 : decode cX0_beginAnew 62 = .ok (.return_, 1) := by decide +kernel
theorem dX6_copyFrom_0 : decode cX6_copyFrom 0 = .ok (.aload_n 0, 1) := by decide +kernel
theorem dX6_copyFrom_1 : decode cX6_copyFrom 1 = .ok (.aload_n 1, 1) := by decide +kernel
theorem dX6_copyFrom_2 : decode cX6_copyFrom 2 = .ok (.getfield 25, 3) := by decide +kernel
theorem dX6_copyFrom_5 : decode cX6_copyFrom 5 = .ok (.aload_n 0, 1) := by decide +kernel
theorem dX6_copyFrom_6 : decode cX6_copyFrom 6 = .ok (.getfield 13, 3) := by decide +kernel
theorem dX6_copyFrom_9 : decode cX6_copyFrom 9 = .ok (.arraylength, 1) := by decide +kernel
theorem dX6_copyFrom_10 : decode cX6_copyFrom 10 = .ok (.invokestatic 42, 3) := by decide +kernel
theorem dX6_copyFrom_13 : decode cX6_copyFrom 13 = .ok (.putfield 25, 3) := by decide +kernel
theorem dX6_copyFrom_16 : decode cX6_copyFrom 16 = .ok (.aload_n 1, 1) := by decide +kernel
theorem dX6_copyFrom_17 : decode cX6_copyFrom 17 = .ok (.getfield 13, 3) := by decide +kernel
theorem dX6_copyFrom_20 : decode cX6_copyFrom 20 = .ok (.iconst 0, 1) := by decide +kernel
theorem dX6_copyFrom_21 : decode cX6_copyFrom 21 = .ok (.aload_n 0, 1) := by decide +kernel
theorem dX6_copyFrom_22 : decode cX6_copyFrom 22 = .ok (.getfield 13, 3) := by decide +kernel
theorem dX6_copyFrom_25 : decode cX6_copyFrom 25 = .ok (.iconst 0, 1) := by decide +kernel
theorem dX6_copyFrom_26 : decode cX6_copyFrom 26 = .ok (.aload_n 0, 1) := by decide +kernel
theorem dX6_copyFrom_27 : decode cX6_copyFrom 27 = .ok (.getfield 25, 3) := by decide +kernel
theorem dX6_copyFrom_30 : decode cX6_copyFrom 30 = .ok (.invokestatic 36, 3) := by decide +kernel
theorem dX6_copyFrom_33 : decode cX6_copyFrom 33 = .ok (.aload_n 1, 1) := by decide +kernel
theorem dX6_copyFrom_34 : decode cX6_copyFrom 34 = .ok (.getfield 19, 3) := by decide +kernel
theorem dX6_copyFrom_37 : decode cX6_copyFrom 37 = .ok (.iconst 0, 1) := by decide +kernel
theorem dX6_copyFrom_38 : decode cX6_copyFrom 38 = .ok (.aload_n 0, 1) := by decide +kernel
theorem dX6_copyFrom_39 : decode cX6_copyFrom 39 = .ok (.getfield 19, 3) := by decide +kernel
theorem dX6_copyFrom_42 : decode cX6_copyFrom 42 = .ok (.iconst 0, 1) := by decide +kernel
theorem dX6_copyFrom_43 : decode cX6_copyFrom 43 = .ok (.aload_n 0, 1) := by decide +kernel
theorem dX6_copyFrom_44 : decode cX6_copyFrom 44 = .ok (.getfield 25, 3) := by decide +kernel
theorem dX6_copyFrom_47 : decode cX6_copyFrom 47 = .ok (.invokestatic 36, 3) := by decide +kernel
theorem dX6_copyFrom_50 : decode cX6_copyFrom 50 = .ok (.aload_n 1, 1) := by decide +kernel
theorem dX6_copyFrom_51 : decode cX6_copyFrom 51 = .ok (.getfield 22, 3) := by decide +kernel
theorem dX6_copyFrom_54 : decode cX6_copyFrom 54 = .ok (.iconst 0, 1) := by decide +kernel
theorem dX6_copyFrom_55 : decode cX6_copyFrom 55 = .ok (.aload_n 0, 1) := by decide +kernel
theorem dX6_copyFrom_56 : decode cX6_copyFrom 56 = .ok (.getfield 22, 3) := by decide +kernel
theorem dX6_copyFrom_59 : decode cX6_copyFrom 59 = .ok (.iconst 0, 1) := by decide +kernel
theorem dX6_copyFrom_60 : decode cX6_copyFrom 60 = .ok (.aload_n 0, 1) := by decide +kernel
theorem dX6_copyFrom_61 : decode cX6_copyFrom 61 = .ok (.getfield 25, 3) := by decide +kernel
theorem dX6_copyFrom_64 : decode cX6_copyFrom 64 = .ok (.invokestatic 36, 3) := by decide +kernel
theorem dX6_copyFrom_67 : decode cX6_copyFrom 67 = .ok (.return_, 1) := by decide +kernel
theorem dX0_copyFrom_0 : decode cX0_copyFrom 0 = .ok (.aload_n 1, 1) := by decide +kernel
theorem dX0_copyFrom_1 : decode cX0_copyFrom 1 = .ok (.getfield 9, 3) := by decide +kernel
theorem dX0_copyFrom_4 : decode cX0_copyFrom 4 = .ok (.iconst 0, 1) := by decide +kernel
theorem dX0_copyFrom_5 : decode cX0_copyFrom 5 = .ok (.aload_n 0, 1) := by decide +kernel
theorem dX0_copyFrom_6 : decode cX0_copyFrom 6 = .ok (.getfield 9, 3) := by decide +kernel
theorem dX0_copyFrom_9 : decode cX0_copyFrom 9 = .ok (.iconst 0, 1) := by decide +kernel
theorem dX0_copyFrom_10 : decode cX0_copyFrom 10 = .ok (.iconst 5, 1) := by decide +kernel
theorem dX0_copyFrom_11 : decode cX0_copyFrom 11 = .ok (.invokestatic 44, 3) := by decide +kernel
theorem dX0_copyFrom_14 : decode cX0_copyFrom 14 = .ok (.aload_n 0, 1) := by decide +kernel
theorem dX0_copyFrom_15 : decode cX0_copyFrom 15 = .ok (.aload_n 1, 1) := by decide +kernel
theorem dX0_copyFrom_16 : decode cX0_copyFrom 16 = .ok (.getfield 54, 3) := by decide +kernel
theorem dX0_copyFrom_19 : decode cX0_copyFrom 19 = .ok (.putfield 54, 3) := by decide +kernel
theorem dX0_copyFrom_22 : decode cX0_copyFrom 22 = .ok (.aload_n 0, 1) := by decide +kernel
theorem dX0_copyFrom_23 : decode cX0_copyFrom 23 = .ok (.getfield 20, 3) := by decide +kernel
theorem dX0_copyFrom_26 : decode cX0_copyFrom 26 = .ok (.aload_n 1, 1) := by decide +kernel
theorem dX0_copyFrom_27 : decode cX0_copyFrom 27 = .ok (.getfield 20, 3) := by decide +kernel
theorem dX0_copyFrom_30 : decode cX0_copyFrom 30 = .ok (.invokevirtual 58, 3) := by decide +kernel
theorem dX0_copyFrom_33 : decode cX0_copyFrom 33 = .ok (.aload_n 0, 1) := by decide +kernel
theorem dX0_copyFrom_34 : decode cX0_copyFrom 34 = .ok (.getfield 24, 3) := by decide +kernel
theorem dX0_copyFrom_37 : decode cX0_copyFrom 37 = .ok (.aload_n 1, 1) := by decide +kernel
theorem dX0_copyFrom_38 : decode cX0_copyFrom 38 = .ok (.getfield 24, 3) := by decide +kernel
theorem dX0_copyFrom_41 : decode cX0_copyFrom 41 = .ok (.invokevirtual 58, 3) := by decide +kernel
theorem dX0_copyFrom_44 : decode cX0_copyFrom 44 = .ok (.aload_n 0, 1) := by decide +kernel
theorem dX0_copyFrom_45 : decode cX0_copyFrom 45 = .ok (.getfield 27, 3) := by decide +kernel
theorem dX0_copyFrom_48 : decode cX0_copyFrom 48 = .ok (.aload_n 1, 1) := by decide +kernel
theorem dX0_copyFrom_49 : decode cX0_copyFrom 49 = .ok (.getfield 27, 3) := by decide +kernel
theorem dX0_copyFrom_52 : decode cX0_copyFrom 52 = .ok (.invokevirtual 58, 3) := by decide +kernel
theorem dX0_copyFrom_55 : decode cX0_copyFrom 55 = .ok (.aload_n 0, 1) := by decide +kernel
theorem dX0_copyFrom_56 : decode cX0_copyFrom 56 = .ok (.getfield 30, 3) := by decide +kernel
theorem dX0_copyFrom_59 : decode cX0_copyFrom 59 = .ok (.aload_n 1, 1) := by decide +kernel
theorem dX0_copyFrom_60 : decode cX0_copyFrom 60 = .ok (.getfield 30, 3) := by decide +kernel
theorem dX0_copyFrom_63 : decode cX0_copyFrom 63 = .ok (.invokevirtual 58, 3) := by decide +kernel
theorem dX0_copyFrom_66 : decode cX0_copyFrom 66 = .ok (.aload_n 0, 1) := by decide +kernel
theorem dX0_copyFrom_67 : decode cX0_copyFrom 67 = .ok (.getfield 33, 3) := by decide +kernel
theorem dX0_copyFrom_70 : decode cX0_copyFrom 70 = .ok (.aload_n 1, 1) := by decide +kernel
theorem dX0_copyFrom_71 : decode cX0_copyFrom 71 = .ok (.getfield 33, 3) := by decide +kernel
theorem dX0_copyFrom_74 : decode cX0_copyFrom 74 = .ok (.invokevirtual 58, 3) := by decide +kernel
theorem dX0_copyFrom_77 : decode cX0_copyFrom 77 = .ok (.aload_n 1, 1) := by decide +kernel
theorem dX0_copyFrom_78 : decode cX0_copyFrom 78 = .ok (.getfield 36, 3) := by decide +kernel
theorem dX0_copyFrom_81 : decode cX0_copyFrom 81 = .ok (.iconst 0, 1) := by decide +kernel
theorem dX0_copyFrom_82 : decode cX0_copyFrom 82 = .ok (.aload_n 0, 1) := by decide +kernel
theorem dX0_copyFrom_83 : decode cX0_copyFrom 83 = .ok (.getfield 36, 3) := by decide +kernel
theorem dX0_copyFrom_86 : decode cX0_copyFrom 86 = .ok (.iconst 0, 1) := by decide +kernel
theorem dX0_copyFrom_87 : decode cX0_copyFrom 87 = .ok (.aload_n 0, 1) := by decide +kernel
theorem dX0_copyFrom_88 : decode cX0_copyFrom 88 = .ok (.getfield 36, 3) := by decide +kernel
theorem dX0_copyFrom_91 : decode cX0_copyFrom 91 = .ok (.arraylength, 1) := by decide +kernel
theorem dX0_copyFrom_92 : decode cX0_copyFrom 92 = .ok (.invokestatic 44, 3) := by decide +kernel
theorem dX0_copyFrom_95 : decode cX0_copyFrom 95 = .ok (.return_, 1) := by decide +kernel
theorem dX6_dropLast_0 : decode cX6_dropLast 0 = .ok (.aload_n 0, 1) := by decide +kernel
theorem dX6_dropLast_1 : decode cX6_dropLast 1 = .ok (.getfield 25, 3) := by decide +kernel
theorem dX6_dropLast_4 : decode cX6_dropLast 4 = .ok (.ifCond .le 13, 3) := by decide +kernel
theorem dX6_dropLast_7 : decode cX6_dropLast 7 = .ok (.aload_n 0, 1) := by decide +kernel
theorem dX6_dropLast_8 : decode cX6_dropLast 8 = .ok (.dup, 1) := by decide +kernel
theorem dX6_dropLast_9 : decode cX6_dropLast 9 = .ok (.getfield 25, 3) := by decide +kernel
theorem dX6_dropLast_12 : decode cX6_dropLast 12 = .ok (.iconst 1, 1) := by decide +kernel
theorem dX6_dropLast_13 : decode cX6_dropLast 13 = .ok (.isub, 1) := by decide +kernel
theorem dX6_dropLast_14 : decode cX6_dropLast 14 = .ok (.putfield 25, 3) := by decide +kernel
theorem dX6_dropLast_17 : decode cX6_dropLast 17 = .ok (.return_, 1) := by decide +kernel
theorem dX0_takeBackLastAct_0 : decode cX0_takeBackLastAct 0 = .ok (.aload_n 0, 1) := by decide +kernel
theorem dX0_takeBackLastAct_1 : decode cX0_takeBackLastAct 1 = .ok (.getfield 30, 3) := by decide +kernel
theorem dX0_takeBackLastAct_4 : decode cX0_takeBackLastAct 4 = .ok (.getfield 55, 3) := by decide +kernel
theorem dX0_takeBackLastAct_7 : decode cX0_takeBackLastAct 7 = .ok (.ifCond .ne 4, 3) := by decide +kernel
theorem dX0_takeBackLastAct_10 : decode cX0_takeBackLastAct 10 = .ok (.return_, 1) := by decide +kernel
theorem dX0_takeBackLastAct_11 : decode cX0_takeBackLastAct 11 = .ok (.aload_n 0, 1) := by decide +kernel
theorem dX0_takeBackLastAct_12 : decode cX0_takeBackLastAct 12 = .ok (.getfield 30, 3) := by decide +kernel
theorem dX0_takeBackLastAct_15 : decode cX0_takeBackLastAct 15 = .ok (.invokevirtual 62, 3) := by decide +kernel
theorem dX0_takeBackLastAct_18 : decode cX0_takeBackLastAct 18 = .ok (.aload_n 0, 1) := by decide +kernel
theorem dX0_takeBackLastAct_19 : decode cX0_takeBackLastAct 19 = .ok (.getfield 30, 3) := by decide +kernel
theorem dX0_takeBackLastAct_22 : decode cX0_takeBackLastAct 22 = .ok (.getfield 65, 3) := by decide +kernel
theorem dX0_takeBackLastAct_25 : decode cX0_takeBackLastAct 25 = .ok (.aload_n 0, 1) := by decide +kernel
theorem dX0_takeBackLastAct_26 : decode cX0_takeBackLastAct 26 = .ok (.getfield 30, 3) := by decide +kernel
theorem dX0_takeBackLastAct_29 : decode cX0_takeBackLastAct 29 = .ok (.getfield 55, 3) := by decide +kernel
theorem dX0_takeBackLastAct_32 : decode cX0_takeBackLastAct 32 = .ok (.iaload, 1) := by decide +kernel
theorem dX0_takeBackLastAct_33 : decode cX0_takeBackLastAct 33 = .ok (.istore_n 1, 1) := by decide +kernel
theorem dX0_takeBackLastAct_34 : decode cX0_takeBackLastAct 34 = .ok (.aload_n 0, 1) := by decide +kernel
theorem dX0_takeBackLastAct_35 : decode cX0_takeBackLastAct 35 = .ok (.getfield 30, 3) := by decide +kernel
theorem dX0_takeBackLastAct_38 : decode cX0_takeBackLastAct 38 = .ok (.getfield 68, 3) := by decide +kernel
theorem dX0_takeBackLastAct_41 : decode cX0_takeBackLastAct 41 = .ok (.aload_n 0, 1) := by decide +kernel
theorem dX0_takeBackLastAct_42 : decode cX0_takeBackLastAct 42 = .ok (.getfield 30, 3) := by decide +kernel
theorem dX0_takeBackLastAct_45 : decode cX0_takeBackLastAct 45 = .ok (.getfield 55, 3) := by decide +kernel
theorem dX0_takeBackLastAct_48 : decode cX0_takeBackLastAct 48 = .ok (.iaload, 1) := by decide +kernel
theorem dX0_takeBackLastAct_49 : decode cX0_takeBackLastAct 49 = .ok (.tableswitch 90 0 3 #[31, 55, 70, 80], 31) := by decide +kernel
theorem dX0_takeBackLastAct_80 : decode cX0_takeBackLastAct 80 = .ok (.aload_n 0, 1) := by decide +kernel
theorem dX0_takeBackLastAct_81 : decode cX0_takeBackLastAct 81 = .ok (.getfield 9, 3) := by decide +kernel
theorem dX0_takeBackLastAct_84 : decode cX0_takeBackLastAct 84 = .ok (.iload_n 1, 1) := by decide +kernel
theorem dX0_takeBackLastAct_85 : decode cX0_takeBackLastAct 85 = .ok (.aload_n 0, 1) := by decide +kernel
theorem dX0_takeBackLastAct_86 : decode cX0_takeBackLastAct 86 = .ok (.getfield 30, 3) := by decide +kernel
theorem dX0_takeBackLastAct_89 : decode cX0_takeBackLastAct 89 = .ok (.getfield 71, 3) := by decide +kernel
theorem dX0_takeBackLastAct_92 : decode cX0_takeBackLastAct 92 = .ok (.aload_n 0, 1) := by decide +kernel
theorem dX0_takeBackLastAct_93 : decode cX0_takeBackLastAct 93 = .ok (.getfield 30, 3) := by decide +kernel
theorem dX0_takeBackLastAct_96 : decode cX0_takeBackLastAct 96 = .ok (.getfield 55, 3) := by decide +kernel
theorem dX0_takeBackLastAct_99 : decode cX0_takeBackLastAct 99 = .ok (.iaload, 1) := by decide +kernel
theorem dX0_takeBackLastAct_100 : decode cX0_takeBackLastAct 100 = .ok (.iastore, 1) := by decide +kernel
theorem dX0_takeBackLastAct_101 : decode cX0_takeBackLastAct 101 = .ok (.goto 45, 3) := by decide +kernel
theorem dX0_takeBackLastAct_104 : decode cX0_takeBackLastAct 104 = .ok (.aload_n 0, 1) := by decide +kernel
theorem dX0_takeBackLastAct_105 : decode cX0_takeBackLastAct 105 = .ok (.dup, 1) := by decide +kernel
theorem dX0_takeBackLastAct_106 : decode cX0_takeBackLastAct 106 = .ok (.getfield 54, 3) := by decide +kernel
theorem dX0_takeBackLastAct_109 : decode cX0_takeBackLastAct 109 = .ok (.iconst 1, 1) := by decide +kernel
theorem dX0_takeBackLastAct_110 : decode cX0_takeBackLastAct 110 = .ok (.iload_n 1, 1) := by decide +kernel
theorem dX0_takeBackLastAct_111 : decode cX0_takeBackLastAct 111 = .ok (.ishl, 1) := by decide +kernel
theorem dX0_takeBackLastAct_112 : decode cX0_takeBackLastAct 112 = .ok (.ixor, 1) := by decide +kernel
theorem dX0_takeBackLastAct_113 : decode cX0_takeBackLastAct 113 = .ok (.putfield 54, 3) := by decide +kernel
theorem dX0_takeBackLastAct_116 : decode cX0_takeBackLastAct 116 = .ok (.goto 30, 3) := by decide +kernel
theorem dX0_takeBackLastAct_119 : decode cX0_takeBackLastAct 119 = .ok (.aload_n 0, 1) := by decide +kernel
theorem dX0_takeBackLastAct_120 : decode cX0_takeBackLastAct 120 = .ok (.getfield 20, 3) := by decide +kernel
theorem dX0_takeBackLastAct_123 : decode cX0_takeBackLastAct 123 = .ok (.invokevirtual 62, 3) := by decide +kernel
theorem dX0_takeBackLastAct_126 : decode cX0_takeBackLastAct 126 = .ok (.goto 20, 3) := by decide +kernel
theorem dX0_takeBackLastAct_129 : decode cX0_takeBackLastAct 129 = .ok (.aload_n 0, 1) := by decide +kernel
theorem dX0_takeBackLastAct_130 : decode cX0_takeBackLastAct 130 = .ok (.getfield 24, 3) := by decide +kernel
theorem dX0_takeBackLastAct_133 : decode cX0_takeBackLastAct 133 = .ok (.invokevirtual 62, 3) := by decide +kernel
theorem dX0_takeBackLastAct_136 : decode cX0_takeBackLastAct 136 = .ok (.goto 10, 3) := by decide +kernel
theorem dX0_takeBackLastAct_139 : decode cX0_takeBackLastAct 139 = .ok (.aload_n 0, 1) := by decide +kernel
theorem dX0_takeBackLastAct_140 : decode cX0_takeBackLastAct 140 = .ok (.getfield 27, 3) := by decide +kernel
theorem dX0_takeBackLastAct_143 : decode cX0_takeBackLastAct 143 = .ok (.invokevirtual 62, 3) := by decide +kernel
theorem dX0_takeBackLastAct_146 : decode cX0_takeBackLastAct 146 = .ok (.return_, 1) := by decide +kernel
theorem dX1_sendOut_0 : decode cX1_sendOut 0 = .ok (.aload_n 0, 1) := by decide +kernel
theorem dX1_sendOut_1 : decode cX1_sendOut 1 = .ok (.getfield 44, 3) := by decide +kernel
theorem dX1_sendOut_4 : decode cX1_sendOut 4 = .ok (.getfield 73, 3) := by decide +kernel
theorem dX1_sendOut_7 : decode cX1_sendOut 7 = .ok (.iload_n 1, 1) := by decide +kernel
theorem dX1_sendOut_8 : decode cX1_sendOut 8 = .ok (.iaload, 1) := by decide +kernel
theorem dX1_sendOut_9 : decode cX1_sendOut 9 = .ok (.istore 4, 2) := by decide +kernel
theorem dX1_sendOut_11 : decode cX1_sendOut 11 = .ok (.iload_n 2, 1) := by decide +kernel
theorem dX1_sendOut_12 : decode cX1_sendOut 12 = .ok (.istore 5, 2) := by decide +kernel
theorem dX1_sendOut_14 : decode cX1_sendOut 14 = .ok (.iconst 0, 1) := by decide +kernel
theorem dX1_sendOut_15 : decode cX1_sendOut 15 = .ok (.istore 6, 2) := by decide +kernel
theorem dX1_sendOut_17 : decode cX1_sendOut 17 = .ok (.iload 6, 2) := by decide +kernel
theorem dX1_sendOut_19 : decode cX1_sendOut 19 = .ok (.iload 4, 2) := by decide +kernel
theorem dX1_sendOut_21 : decode cX1_sendOut 21 = .ok (.if_icmp .ge 91, 3) := by decide +kernel
theorem dX1_sendOut_24 : decode cX1_sendOut 24 = .ok (.aload_n 0, 1) := by decide +kernel
theorem dX1_sendOut_25 : decode cX1_sendOut 25 = .ok (.getfield 44, 3) := by decide +kernel
theorem dX1_sendOut_28 : decode cX1_sendOut 28 = .ok (.getfield 76, 3) := by decide +kernel
theorem dX1_sendOut_31 : decode cX1_sendOut 31 = .ok (.iload_n 1, 1) := by decide +kernel
theorem dX1_sendOut_32 : decode cX1_sendOut 32 = .ok (.aaload, 1) := by decide +kernel
theorem dX1_sendOut_33 : decode cX1_sendOut 33 = .ok (.iload_n 3, 1) := by decide +kernel
theorem dX1_sendOut_34 : decode cX1_sendOut 34 = .ok (.ifCond .eq 13, 3) := by decide +kernel
theorem dX1_sendOut_37 : decode cX1_sendOut 37 = .ok (.iload 4, 2) := by decide +kernel
theorem dX1_sendOut_39 : decode cX1_sendOut 39 = .ok (.iconst 1, 1) := by decide +kernel
theorem dX1_sendOut_40 : decode cX1_sendOut 40 = .ok (.isub, 1) := by decide +kernel
theorem dX1_sendOut_41 : decode cX1_sendOut 41 = .ok (.iload 6, 2) := by decide +kernel
theorem dX1_sendOut_43 : decode cX1_sendOut 43 = .ok (.isub, 1) := by decide +kernel
theorem dX1_sendOut_44 : decode cX1_sendOut 44 = .ok (.goto 5, 3) := by decide +kernel
theorem dX1_sendOut_47 : decode cX1_sendOut 47 = .ok (.iload 6, 2) := by decide +kernel
theorem dX1_sendOut_49 : decode cX1_sendOut 49 = .ok (.iaload, 1) := by decide +kernel
theorem dX1_sendOut_50 : decode cX1_sendOut 50 = .ok (.istore 7, 2) := by decide +kernel
theorem dX1_sendOut_52 : decode cX1_sendOut 52 = .ok (.iload 6, 2) := by decide +kernel
theorem dX1_sendOut_54 : decode cX1_sendOut 54 = .ok (.ifCond .le 30, 3) := by decide +kernel
theorem dX1_sendOut_57 : decode cX1_sendOut 57 = .ok (.iload 5, 2) := by decide +kernel
theorem dX1_sendOut_59 : decode cX1_sendOut 59 = .ok (.aload_n 0, 1) := by decide +kernel
theorem dX1_sendOut_60 : decode cX1_sendOut 60 = .ok (.getfield 44, 3) := by decide +kernel
theorem dX1_sendOut_63 : decode cX1_sendOut 63 = .ok (.getfield 79, 3) := by decide +kernel
theorem dX1_sendOut_66 : decode cX1_sendOut 66 = .ok (.aload_n 0, 1) := by decide +kernel
theorem dX1_sendOut_67 : decode cX1_sendOut 67 = .ok (.getfield 11, 3) := by decide +kernel
theorem dX1_sendOut_70 : decode cX1_sendOut 70 = .ok (.iload_n 1, 1) := by decide +kernel
theorem dX1_sendOut_71 : decode cX1_sendOut 71 = .ok (.aaload, 1) := by decide +kernel
theorem dX1_sendOut_72 : decode cX1_sendOut 72 = .ok (.iload 6, 2) := by decide +kernel
theorem dX1_sendOut_74 : decode cX1_sendOut 74 = .ok (.iconst 1, 1) := by decide +kernel
theorem dX1_sendOut_75 : decode cX1_sendOut 75 = .ok (.isub, 1) := by decide +kernel
theorem dX1_sendOut_76 : decode cX1_sendOut 76 = .ok (.iaload, 1) := by decide +kernel
theorem dX1_sendOut_77 : decode cX1_sendOut 77 = .ok (.aaload, 1) := by decide +kernel
theorem dX1_sendOut_78 : decode cX1_sendOut 78 = .ok (.iload 7, 2) := by decide +kernel
theorem dX1_sendOut_80 : decode cX1_sendOut 80 = .ok (.iaload, 1) := by decide +kernel
theorem dX1_sendOut_81 : decode cX1_sendOut 81 = .ok (.iadd, 1) := by decide +kernel
theorem dX1_sendOut_82 : decode cX1_sendOut 82 = .ok (.istore 5, 2) := by decide +kernel
theorem dX1_sendOut_84 : decode cX1_sendOut 84 = .ok (.aload_n 0, 1) := by decide +kernel
theorem dX1_sendOut_85 : decode cX1_sendOut 85 = .ok (.getfield 11, 3) := by decide +kernel
theorem dX1_sendOut_88 : decode cX1_sendOut 88 = .ok (.iload_n 1, 1) := by decide +kernel
theorem dX1_sendOut_89 : decode cX1_sendOut 89 = .ok (.aaload, 1) := by decide +kernel
theorem dX1_sendOut_90 : decode cX1_sendOut 90 = .ok (.iload 6, 2) := by decide +kernel
theorem dX1_sendOut_92 : decode cX1_sendOut 92 = .ok (.iload 7, 2) := by decide +kernel
theorem dX1_sendOut_94 : decode cX1_sendOut 94 = .ok (.iastore, 1) := by decide +kernel
theorem dX1_sendOut_95 : decode cX1_sendOut 95 = .ok (.aload_n 0, 1) := by decide +kernel
theorem dX1_sendOut_96 : decode cX1_sendOut 96 = .ok (.getfield 16, 3) := by decide +kernel
theorem dX1_sendOut_99 : decode cX1_sendOut 99 = .ok (.iload_n 1, 1) := by decide +kernel
theorem dX1_sendOut_100 : decode cX1_sendOut 100 = .ok (.aaload, 1) := by decide +kernel
theorem dX1_sendOut_101 : decode cX1_sendOut 101 = .ok (.iload 6, 2) := by decide +kernel
theorem dX1_sendOut_103 : decode cX1_sendOut 103 = .ok (.iload 5, 2) := by decide +kernel
theorem dX1_sendOut_105 : decode cX1_sendOut 105 = .ok (.iastore, 1) := by decide +kernel
theorem dX1_sendOut_106 : decode cX1_sendOut 106 = .ok (.iinc 6 1, 3) := by decide +kernel
theorem dX1_sendOut_109 : decode cX1_sendOut 109 = .ok (.goto (-92), 3) := by decide +kernel
theorem dX1_sendOut_112 : decode cX1_sendOut 112 = .ok (.return_, 1) := by decide +kernel
theorem dX1_load_0 : decode cX1_load 0 = .ok (.aload_n 0, 1) := by decide +kernel
theorem dX1_load_1 : decode cX1_load 1 = .ok (.aload_n 1, 1) := by decide +kernel
theorem dX1_load_2 : decode cX1_load 2 = .ok (.putfield 44, 3) := by decide +kernel
theorem dX1_load_5 : decode cX1_load 5 = .ok (.aload_n 0, 1) := by decide +kernel
theorem dX1_load_6 : decode cX1_load 6 = .ok (.aload_n 2, 1) := by decide +kernel
theorem dX1_load_7 : decode cX1_load 7 = .ok (.putfield 48, 3) := by decide +kernel
theorem dX1_load_10 : decode cX1_load 10 = .ok (.aload_n 0, 1) := by decide +kernel
theorem dX1_load_11 : decode cX1_load 11 = .ok (.iconst 0, 1) := by decide +kernel
theorem dX1_load_12 : decode cX1_load 12 = .ok (.putfield 52, 3) := by decide +kernel
theorem dX1_load_15 : decode cX1_load 15 = .ok (.iconst 0, 1) := by decide +kernel
theorem dX1_load_16 : decode cX1_load 16 = .ok (.istore_n 3, 1) := by decide +kernel
theorem dX1_load_17 : decode cX1_load 17 = .ok (.iload_n 3, 1) := by decide +kernel
theorem dX1_load_18 : decode cX1_load 18 = .ok (.aload_n 0, 1) := by decide +kernel
theorem dX1_load_19 : decode cX1_load 19 = .ok (.getfield 44, 3) := by decide +kernel
theorem dX1_load_22 : decode cX1_load 22 = .ok (.getfield 56, 3) := by decide +kernel
theorem dX1_load_25 : decode cX1_load 25 = .ok (.if_icmp .ge 49, 3) := by decide +kernel
theorem dX1_load_28 : decode cX1_load 28 = .ok (.aload_n 0, 1) := by decide +kernel
theorem dX1_load_29 : decode cX1_load 29 = .ok (.iload_n 3, 1) := by decide +kernel
theorem dX1_load_30 : decode cX1_load 30 = .ok (.aload_n 0, 1) := by decide +kernel
theorem dX1_load_31 : decode cX1_load 31 = .ok (.getfield 48, 3) := by decide +kernel
theorem dX1_load_34 : decode cX1_load 34 = .ok (.getfield 61, 3) := by decide +kernel
theorem dX1_load_37 : decode cX1_load 37 = .ok (.iload_n 3, 1) := by decide +kernel
theorem dX1_load_38 : decode cX1_load 38 = .ok (.iaload, 1) := by decide +kernel
theorem dX1_load_39 : decode cX1_load 39 = .ok (.iconst 0, 1) := by decide +kernel
theorem dX1_load_40 : decode cX1_load 40 = .ok (.invokevirtual 66, 3) := by decide +kernel
theorem dX1_load_43 : decode cX1_load 43 = .ok (.aload_n 0, 1) := by decide +kernel
theorem dX1_load_44 : decode cX1_load 44 = .ok (.getfield 44, 3) := by decide +kernel
theorem dX1_load_47 : decode cX1_load 47 = .ok (.getfield 70, 3) := by decide +kernel
theorem dX1_load_50 : decode cX1_load 50 = .ok (.iload_n 3, 1) := by decide +kernel
theorem dX1_load_51 : decode cX1_load 51 = .ok (.iaload, 1) := by decide +kernel
theorem dX1_load_52 : decode cX1_load 52 = .ok (.iconst 1, 1) := by decide +kernel
theorem dX1_load_53 : decode cX1_load 53 = .ok (.if_icmp .ne 15, 3) := by decide +kernel
theorem dX1_load_56 : decode cX1_load 56 = .ok (.aload_n 0, 1) := by decide +kernel
theorem dX1_load_57 : decode cX1_load 57 = .ok (.dup, 1) := by decide +kernel
theorem dX1_load_58 : decode cX1_load 58 = .ok (.getfield 52, 3) := by decide +kernel
theorem dX1_load_61 : decode cX1_load 61 = .ok (.iconst 1, 1) := by decide +kernel
theorem dX1_load_62 : decode cX1_load 62 = .ok (.iload_n 3, 1) := by decide +kernel
theorem dX1_load_63 : decode cX1_load 63 = .ok (.ishl, 1) := by decide +kernel
theorem dX1_load_64 : decode cX1_load 64 = .ok (.ior, 1) := by decide +kernel
theorem dX1_load_65 : decode cX1_load 65 = .ok (.putfield 52, 3) := by decide +kernel
theorem dX1_load_68 : decode cX1_load 68 = .ok (.iinc 3 1, 3) := by decide +kernel
theorem dX1_load_71 : decode cX1_load 71 = .ok (.goto (-54), 3) := by decide +kernel
theorem dX1_load_74 : decode cX1_load 74 = .ok (.return_, 1) := by decide +kernel
theorem dJ7_fill_53178_0 : decode cJ7_fill_53178 0 = .ok (.iconst 0, 1) := by decide +kernel
theorem dJ7_fill_53178_1 : decode cJ7_fill_53178 1 = .ok (.istore_n 2, 1) := by decide +kernel
theorem dJ7_fill_53178_2 : decode cJ7_fill_53178 2 = .ok (.aload_n 0, 1) := by decide +kernel
theorem dJ7_fill_53178_3 : decode cJ7_fill_53178 3 = .ok (.arraylength, 1) := by decide +kernel
theorem dJ7_fill_53178_4 : decode cJ7_fill_53178 4 = .ok (.istore_n 3, 1) := by decide +kernel
theorem dJ7_fill_53178_5 : decode cJ7_fill_53178 5 = .ok (.iload_n 2, 1) := by decide +kernel
theorem dJ7_fill_53178_6 : decode cJ7_fill_53178 6 = .ok (.iload_n 3, 1) := by decide +kernel
theorem dJ7_fill_53178_7 : decode cJ7_fill_53178 7 = .ok (.if_icmp .ge 13, 3) := by decide +kernel
theorem dJ7_fill_53178_10 : decode cJ7_fill_53178 10 = .ok (.aload_n 0, 1) := by decide +kernel
theorem dJ7_fill_53178_11 : decode cJ7_fill_53178 11 = .ok (.iload_n 2, 1) := by decide +kernel
theorem dJ7_fill_53178_12 : decode cJ7_fill_53178 12 = .ok (.iload_n 1, 1) := by decide +kernel
theorem dJ7_fill_53178_13 : decode cJ7_fill_53178 13 = .ok (.iastore, 1) := by decide +kernel
theorem dJ7_fill_53178_14 : decode cJ7_fill_53178 14 = .ok (.iinc 2 1, 3) := by decide +kernel
theorem dJ7_fill_53178_17 : decode cJ7_fill_53178 17 = .ok (.goto (-12), 3) := by decide +kernel
theorem dJ7_fill_53178_20 : decode cJ7_fill_53178 20 = .ok (.return_, 1) := by decide +kernel
theorem dX1_nextWhoComes_0 : decode cX1_nextWhoComes 0 = .ok (.iconst (-1), 1) := by decide +kernel
theorem dX1_nextWhoComes_1 : decode cX1_nextWhoComes 1 = .ok (.istore_n 1, 1) := by decide +kernel
theorem dX1_nextWhoComes_2 : decode cX1_nextWhoComes 2 = .ok (.iconst 0, 1) := by decide +kernel
theorem dX1_nextWhoComes_3 : decode cX1_nextWhoComes 3 = .ok (.istore_n 2, 1) := by decide +kernel
theorem dX1_nextWhoComes_4 : decode cX1_nextWhoComes 4 = .ok (.iconst 0, 1) := by decide +kernel
theorem dX1_nextWhoComes_5 : decode cX1_nextWhoComes 5 = .ok (.istore_n 3, 1) := by decide +kernel
theorem dX1_nextWhoComes_6 : decode cX1_nextWhoComes 6 = .ok (.iload_n 3, 1) := by decide +kernel
theorem dX1_nextWhoComes_7 : decode cX1_nextWhoComes 7 = .ok (.aload_n 0, 1) := by decide +kernel
theorem dX1_nextWhoComes_8 : decode cX1_nextWhoComes 8 = .ok (.getfield 44, 3) := by decide +kernel
theorem dX1_nextWhoComes_11 : decode cX1_nextWhoComes 11 = .ok (.getfield 56, 3) := by decide +kernel
theorem dX1_nextWhoComes_14 : decode cX1_nextWhoComes 14 = .ok (.if_icmp .ge 61, 3) := by decide +kernel
theorem dX1_nextWhoComes_17 : decode cX1_nextWhoComes 17 = .ok (.aload_n 0, 1) := by decide +kernel
theorem dX1_nextWhoComes_18 : decode cX1_nextWhoComes 18 = .ok (.getfield 38, 3) := by decide +kernel
theorem dX1_nextWhoComes_21 : decode cX1_nextWhoComes 21 = .ok (.iload_n 3, 1) := by decide +kernel
theorem dX1_nextWhoComes_22 : decode cX1_nextWhoComes 22 = .ok (.iaload, 1) := by decide +kernel
theorem dX1_nextWhoComes_23 : decode cX1_nextWhoComes 23 = .ok (.istore 4, 2) := by decide +kernel
theorem dX1_nextWhoComes_25 : decode cX1_nextWhoComes 25 = .ok (.iload 4, 2) := by decide +kernel
theorem dX1_nextWhoComes_27 : decode cX1_nextWhoComes 27 = .ok (.aload_n 0, 1) := by decide +kernel
theorem dX1_nextWhoComes_28 : decode cX1_nextWhoComes 28 = .ok (.getfield 44, 3) := by decide +kernel
theorem dX1_nextWhoComes_31 : decode cX1_nextWhoComes 31 = .ok (.getfield 73, 3) := by decide +kernel
theorem dX1_nextWhoComes_34 : decode cX1_nextWhoComes 34 = .ok (.iload_n 3, 1) := by decide +kernel
theorem dX1_nextWhoComes_35 : decode cX1_nextWhoComes 35 = .ok (.iaload, 1) := by decide +kernel
theorem dX1_nextWhoComes_36 : decode cX1_nextWhoComes 36 = .ok (.if_icmp .ge 33, 3) := by decide +kernel
theorem dX1_nextWhoComes_39 : decode cX1_nextWhoComes 39 = .ok (.iload_n 1, 1) := by decide +kernel
theorem dX1_nextWhoComes_40 : decode cX1_nextWhoComes 40 = .ok (.iconst (-1), 1) := by decide +kernel
theorem dX1_nextWhoComes_41 : decode cX1_nextWhoComes 41 = .ok (.if_icmp .eq 16, 3) := by decide +kernel
theorem dX1_nextWhoComes_44 : decode cX1_nextWhoComes 44 = .ok (.aload_n 0, 1) := by decide +kernel
theorem dX1_nextWhoComes_45 : decode cX1_nextWhoComes 45 = .ok (.getfield 16, 3) := by decide +kernel
theorem dX1_nextWhoComes_48 : decode cX1_nextWhoComes 48 = .ok (.iload_n 3, 1) := by decide +kernel
theorem dX1_nextWhoComes_49 : decode cX1_nextWhoComes 49 = .ok (.aaload, 1) := by decide +kernel
theorem dX1_nextWhoComes_50 : decode cX1_nextWhoComes 50 = .ok (.iload 4, 2) := by decide +kernel
theorem dX1_nextWhoComes_52 : decode cX1_nextWhoComes 52 = .ok (.iaload, 1) := by decide +kernel
theorem dX1_nextWhoComes_53 : decode cX1_nextWhoComes 53 = .ok (.iload_n 2, 1) := by decide +kernel
theorem dX1_nextWhoComes_54 : decode cX1_nextWhoComes 54 = .ok (.if_icmp .ge 15, 3) := by decide +kernel
theorem dX1_nextWhoComes_57 : decode cX1_nextWhoComes 57 = .ok (.iload_n 3, 1) := by decide +kernel
theorem dX1_nextWhoComes_58 : decode cX1_nextWhoComes 58 = .ok (.istore_n 1, 1) := by decide +kernel
theorem dX1_nextWhoComes_59 : decode cX1_nextWhoComes 59 = .ok (.aload_n 0, 1) := by decide +kernel
theorem dX1_nextWhoComes_60 : decode cX1_nextWhoComes 60 = .ok (.getfield 16, 3) := by decide +kernel
theorem dX1_nextWhoComes_63 : decode cX1_nextWhoComes 63 = .ok (.iload_n 3, 1) := by decide +kernel
theorem dX1_nextWhoComes_64 : decode cX1_nextWhoComes 64 = .ok (.aaload, 1) := by decide +kernel
theorem dX1_nextWhoComes_65 : decode cX1_nextWhoComes 65 = .ok (.iload 4, 2) := by decide +kernel
theorem dX1_nextWhoComes_67 : decode cX1_nextWhoComes 67 = .ok (.iaload, 1) := by decide +kernel
theorem dX1_nextWhoComes_68 : decode cX1_nextWhoComes 68 = .ok (.istore_n 2, 1) := by decide +kernel
theorem dX1_nextWhoComes_69 : decode cX1_nextWhoComes 69 = .ok (.iinc 3 1, 3) := by decide +kernel
theorem dX1_nextWhoComes_72 : decode cX1_nextWhoComes 72 = .ok (.goto (-66), 3) := by decide +kernel
theorem dX1_nextWhoComes_75 : decode cX1_nextWhoComes 75 = .ok (.iload_n 1, 1) := by decide +kernel
theorem dX1_nextWhoComes_76 : decode cX1_nextWhoComes 76 = .ok (.ireturn, 1) := by decide +kernel
theorem dX1_isFeast_0 : decode cX1_isFeast 0 = .ok (.aload_n 0, 1) := by decide +kernel
theorem dX1_isFeast_1 : decode cX1_isFeast 1 = .ok (.getfield 48, 3) := by decide +kernel
theorem dX1_isFeast_4 : decode cX1_isFeast 4 = .ok (.getfield 140, 3) := by decide +kernel
theorem dX1_isFeast_7 : decode cX1_isFeast 7 = .ok (.astore_n 3, 1) := by decide +kernel
theorem dX1_isFeast_8 : decode cX1_isFeast 8 = .ok (.iconst 0, 1) := by decide +kernel
theorem dX1_isFeast_9 : decode cX1_isFeast 9 = .ok (.istore 4, 2) := by decide +kernel
theorem dX1_isFeast_11 : decode cX1_isFeast 11 = .ok (.iload 4, 2) := by decide +kernel
theorem dX1_isFeast_13 : decode cX1_isFeast 13 = .ok (.aload_n 3, 1) := by decide +kernel
theorem dX1_isFeast_14 : decode cX1_isFeast 14 = .ok (.getfield 144, 3) := by decide +kernel
theorem dX1_isFeast_17 : decode cX1_isFeast 17 = .ok (.if_icmp .ge 44, 3) := by decide +kernel
theorem dX1_isFeast_20 : decode cX1_isFeast 20 = .ok (.aload_n 3, 1) := by decide +kernel
theorem dX1_isFeast_21 : decode cX1_isFeast 21 = .ok (.getfield 149, 3) := by decide +kernel
theorem dX1_isFeast_24 : decode cX1_isFeast 24 = .ok (.iload 4, 2) := by decide +kernel
theorem dX1_isFeast_26 : decode cX1_isFeast 26 = .ok (.iaload, 1) := by decide +kernel
theorem dX1_isFeast_27 : decode cX1_isFeast 27 = .ok (.iload_n 1, 1) := by decide +kernel
theorem dX1_isFeast_28 : decode cX1_isFeast 28 = .ok (.if_icmp .ne 27, 3) := by decide +kernel
theorem dX1_isFeast_31 : decode cX1_isFeast 31 = .ok (.aload_n 3, 1) := by decide +kernel
theorem dX1_isFeast_32 : decode cX1_isFeast 32 = .ok (.getfield 152, 3) := by decide +kernel
theorem dX1_isFeast_35 : decode cX1_isFeast 35 = .ok (.iload 4, 2) := by decide +kernel
theorem dX1_isFeast_37 : decode cX1_isFeast 37 = .ok (.iaload, 1) := by decide +kernel
theorem dX1_isFeast_38 : decode cX1_isFeast 38 = .ok (.iload_n 2, 1) := by decide +kernel
theorem dX1_isFeast_39 : decode cX1_isFeast 39 = .ok (.if_icmp .gt 16, 3) := by decide +kernel
theorem dX1_isFeast_42 : decode cX1_isFeast 42 = .ok (.iload_n 2, 1) := by decide +kernel
theorem dX1_isFeast_43 : decode cX1_isFeast 43 = .ok (.aload_n 3, 1) := by decide +kernel
theorem dX1_isFeast_44 : decode cX1_isFeast 44 = .ok (.getfield 155, 3) := by decide +kernel
theorem dX1_isFeast_47 : decode cX1_isFeast 47 = .ok (.iload 4, 2) := by decide +kernel
theorem dX1_isFeast_49 : decode cX1_isFeast 49 = .ok (.iaload, 1) := by decide +kernel
theorem dX1_isFeast_50 : decode cX1_isFeast 50 = .ok (.if_icmp .gt 5, 3) := by decide +kernel
theorem dX1_isFeast_53 : decode cX1_isFeast 53 = .ok (.iconst 1, 1) := by decide +kernel
theorem dX1_isFeast_54 : decode cX1_isFeast 54 = .ok (.ireturn, 1) := by decide +kernel
theorem dX1_isFeast_55 : decode cX1_isFeast 55 = .ok (.iinc 4 1, 3) := by decide +kernel
theorem dX1_isFeast_58 : decode cX1_isFeast 58 = .ok (.goto (-47), 3) := by decide +kernel
theorem dX1_isFeast_61 : decode cX1_isFeast 61 = .ok (.iconst 0, 1) := by decide +kernel
theorem dX1_isFeast_62 : decode cX1_isFeast 62 = .ok (.ireturn, 1) := by decide +kernel
theorem dX1_howManySaidBefore_0 : decode cX1_howManySaidBefore 0 = .ok (.iconst 0, 1) := by decide +kernel
theorem dX1_howManySaidBefore_1 : decode cX1_howManySaidBefore 1 = .ok (.istore_n 3, 1) := by decide +kernel
theorem dX1_howManySaidBefore_2 : decode cX1_howManySaidBefore 2 = .ok (.iconst 0, 1) := by decide +kernel
theorem dX1_howManySaidBefore_3 : decode cX1_howManySaidBefore 3 = .ok (.istore 4, 2) := by decide +kernel
theorem dX1_howManySaidBefore_5 : decode cX1_howManySaidBefore 5 = .ok (.iload 4, 2) := by decide +kernel
theorem dX1_howManySaidBefore_7 : decode cX1_howManySaidBefore 7 = .ok (.aload_n 0, 1) := by decide +kernel
theorem dX1_howManySaidBefore_8 : decode cX1_howManySaidBefore 8 = .ok (.getfield 44, 3) := by decide +kernel
theorem dX1_howManySaidBefore_11 : decode cX1_howManySaidBefore 11 = .ok (.getfield 56, 3) := by decide +kernel
theorem dX1_howManySaidBefore_14 : decode cX1_howManySaidBefore 14 = .ok (.if_icmp .ge 38, 3) := by decide +kernel
theorem dX1_howManySaidBefore_17 : decode cX1_howManySaidBefore 17 = .ok (.aload_n 0, 1) := by decide +kernel
theorem dX1_howManySaidBefore_18 : decode cX1_howManySaidBefore 18 = .ok (.getfield 19, 3) := by decide +kernel
theorem dX1_howManySaidBefore_21 : decode cX1_howManySaidBefore 21 = .ok (.iload_n 1, 1) := by decide +kernel
theorem dX1_howManySaidBefore_22 : decode cX1_howManySaidBefore 22 = .ok (.aaload, 1) := by decide +kernel
theorem dX1_howManySaidBefore_23 : decode cX1_howManySaidBefore 23 = .ok (.iload 4, 2) := by decide +kernel
theorem dX1_howManySaidBefore_25 : decode cX1_howManySaidBefore 25 = .ok (.iaload, 1) := by decide +kernel
theorem dX1_howManySaidBefore_26 : decode cX1_howManySaidBefore 26 = .ok (.iconst (-1), 1) := by decide +kernel
theorem dX1_howManySaidBefore_27 : decode cX1_howManySaidBefore 27 = .ok (.if_icmp .eq 19, 3) := by decide +kernel
theorem dX1_howManySaidBefore_30 : decode cX1_howManySaidBefore 30 = .ok (.aload_n 0, 1) := by decide +kernel
theorem dX1_howManySaidBefore_31 : decode cX1_howManySaidBefore 31 = .ok (.getfield 19, 3) := by decide +kernel
theorem dX1_howManySaidBefore_34 : decode cX1_howManySaidBefore 34 = .ok (.iload_n 1, 1) := by decide +kernel
theorem dX1_howManySaidBefore_35 : decode cX1_howManySaidBefore 35 = .ok (.aaload, 1) := by decide +kernel
theorem dX1_howManySaidBefore_36 : decode cX1_howManySaidBefore 36 = .ok (.iload 4, 2) := by decide +kernel
theorem dX1_howManySaidBefore_38 : decode cX1_howManySaidBefore 38 = .ok (.iaload, 1) := by decide +kernel
theorem dX1_howManySaidBefore_39 : decode cX1_howManySaidBefore 39 = .ok (.iload_n 2, 1) := by decide +kernel
theorem dX1_howManySaidBefore_40 : decode cX1_howManySaidBefore 40 = .ok (.if_icmp .ge 6, 3) := by decide +kernel
theorem dX1_howManySaidBefore_43 : decode cX1_howManySaidBefore 43 = .ok (.iinc 3 1, 3) := by decide +kernel
theorem dX1_howManySaidBefore_46 : decode cX1_howManySaidBefore 46 = .ok (.iinc 4 1, 3) := by decide +kernel
theorem dX1_howManySaidBefore_49 : decode cX1_howManySaidBefore 49 = .ok (.goto (-44), 3) := by decide +kernel
theorem dX1_howManySaidBefore_52 : decode cX1_howManySaidBefore 52 = .ok (.iload_n 3, 1) := by decide +kernel
theorem dX1_howManySaidBefore_53 : decode cX1_howManySaidBefore 53 = .ok (.ireturn, 1) := by decide +kernel
theorem dX4_join_0 : decode cX4_join 0 = .ok (.iload_n 0, 1) := by decide +kernel
theorem dX4_join_1 : decode cX4_join 1 = .ok (.tableswitch 109 10005 10012 #[47, 61, 109, 75, 86, 97, 101, 105], 47) := by decide +kernel
theorem dX4_join_48 : decode cX4_join 48 = .ok (.iload_n 1, 1) := by decide +kernel
theorem dX4_join_49 : decode cX4_join 49 = .ok (.ifCond .ne 7, 3) := by decide +kernel
theorem dX4_join_52 : decode cX4_join 52 = .ok (.iload_n 2, 1) := by decide +kernel
theorem dX4_join_53 : decode cX4_join 53 = .ok (.ifCond .eq 7, 3) := by decide +kernel
theorem dX4_join_56 : decode cX4_join 56 = .ok (.iconst 1, 1) := by decide +kernel
theorem dX4_join_57 : decode cX4_join 57 = .ok (.goto 4, 3) := by decide +kernel
theorem dX4_join_60 : decode cX4_join 60 = .ok (.iconst 0, 1) := by decide +kernel
theorem dX4_join_61 : decode cX4_join 61 = .ok (.ireturn, 1) := by decide +kernel
theorem dX4_join_62 : decode cX4_join 62 = .ok (.iload_n 1, 1) := by decide +kernel
theorem dX4_join_63 : decode cX4_join 63 = .ok (.ifCond .eq 11, 3) := by decide +kernel
theorem dX4_join_66 : decode cX4_join 66 = .ok (.iload_n 2, 1) := by decide +kernel
theorem dX4_join_67 : decode cX4_join 67 = .ok (.ifCond .eq 7, 3) := by decide +kernel
theorem dX4_join_70 : decode cX4_join 70 = .ok (.iconst 1, 1) := by decide +kernel
theorem dX4_join_71 : decode cX4_join 71 = .ok (.goto 4, 3) := by decide +kernel
theorem dX4_join_74 : decode cX4_join 74 = .ok (.iconst 0, 1) := by decide +kernel
theorem dX4_join_75 : decode cX4_join 75 = .ok (.ireturn, 1) := by decide +kernel
theorem dX4_join_76 : decode cX4_join 76 = .ok (.iload_n 1, 1) := by decide +kernel
theorem dX4_join_77 : decode cX4_join 77 = .ok (.iload_n 2, 1) := by decide +kernel
theorem dX4_join_78 : decode cX4_join 78 = .ok (.if_icmp .ge 7, 3) := by decide +kernel
theorem dX4_join_81 : decode cX4_join 81 = .ok (.iconst 1, 1) := by decide +kernel
theorem dX4_join_82 : decode cX4_join 82 = .ok (.goto 4, 3) := by decide +kernel
theorem dX4_join_85 : decode cX4_join 85 = .ok (.iconst 0, 1) := by decide +kernel
theorem dX4_join_86 : decode cX4_join 86 = .ok (.ireturn, 1) := by decide +kernel
theorem dX4_join_87 : decode cX4_join 87 = .ok (.iload_n 1, 1) := by decide +kernel
theorem dX4_join_88 : decode cX4_join 88 = .ok (.iload_n 2, 1) := by decide +kernel
theorem dX4_join_89 : decode cX4_join 89 = .ok (.if_icmp .ne 7, 3) := by decide +kernel
theorem dX4_join_92 : decode cX4_join 92 = .ok (.iconst 1, 1) := by decide +kernel
theorem dX4_join_93 : decode cX4_join 93 = .ok (.goto 4, 3) := by decide +kernel
theorem dX4_join_96 : decode cX4_join 96 = .ok (.iconst 0, 1) := by decide +kernel
theorem dX4_join_97 : decode cX4_join 97 = .ok (.ireturn, 1) := by decide +kernel
theorem dX4_join_98 : decode cX4_join 98 = .ok (.iload_n 1, 1) := by decide +kernel
theorem dX4_join_99 : decode cX4_join 99 = .ok (.iload_n 2, 1) := by decide +kernel
theorem dX4_join_100 : decode cX4_join 100 = .ok (.iadd, 1) := by decide +kernel
theorem dX4_join_101 : decode cX4_join 101 = .ok (.ireturn, 1) := by decide +kernel
theorem dX4_join_102 : decode cX4_join 102 = .ok (.iload_n 1, 1) := by decide +kernel
theorem dX4_join_103 : decode cX4_join 103 = .ok (.iload_n 2, 1) := by decide +kernel
theorem dX4_join_104 : decode cX4_join 104 = .ok (.isub, 1) := by decide +kernel
theorem dX4_join_105 : decode cX4_join 105 = .ok (.ireturn, 1) := by decide +kernel
theorem dX4_join_106 : decode cX4_join 106 = .ok (.iload_n 1, 1) := by decide +kernel
theorem dX4_join_107 : decode cX4_join 107 = .ok (.iload_n 2, 1) := by decide +kernel
theorem dX4_join_108 : decode cX4_join 108 = .ok (.imul, 1) := by decide +kernel
theorem dX4_join_109 : decode cX4_join 109 = .ok (.ireturn, 1) := by decide +kernel
theorem dX4_join_110 : decode cX4_join 110 = .ok (.iload_n 2, 1) := by decide +kernel
theorem dX4_join_111 : decode cX4_join 111 = .ok (.ifCond .ne 7, 3) := by decide +kernel
theorem dX4_join_114 : decode cX4_join 114 = .ok (.iconst 0, 1) := by decide +kernel
theorem dX4_join_115 : decode cX4_join 115 = .ok (.goto 6, 3) := by decide +kernel
theorem dX4_join_118 : decode cX4_join 118 = .ok (.iload_n 1, 1) := by decide +kernel
theorem dX4_join_119 : decode cX4_join 119 = .ok (.iload_n 2, 1) := by decide +kernel
theorem dX4_join_120 : decode cX4_join 120 = .ok (.idiv, 1) := by decide +kernel
theorem dX4_join_121 : decode cX4_join 121 = .ok (.ireturn, 1) := by decide +kernel
def f_X0_beginAnew  (z0 : Nat) (z1 : Nat) (I : Mem) : Option (Mem) :=
  gd (cpOK (0 : Int32) (0 : Int32) (5 : Int32) 5 5) <|
  bnd (updR I 9 z0 0 (va_cpy (I 34 z1 0) (I 9 z0 0) (0 : Int32).toNatClampNeg (0 : Int32).toNatClampNeg (5 : Int32).toNatClampNeg)) fun I1' =>
  bnd (upd4 I1' 0 z0 0 1 (I1' 3 z1 0 1)) fun I2' =>
  bnd (upd4 I2' 6 (5 * z0 + 0) 0 3 (0 : Int32)) fun I3' =>
  bnd (upd4 I3' 6 (5 * z0 + 1) 0 3 (0 : Int32)) fun I4' =>
  bnd (upd4 I4' 6 (5 * z0 + 2) 0 3 (0 : Int32)) fun I5' =>
  bnd (upd4 I5' 6 (5 * z0 + 3) 0 3 (0 : Int32)) fun I6' =>
  bnd (upd4 I6' 6 (5 * z0 + 4) 0 3 (0 : Int32)) fun I7' =>
  some I7'
theorem b_X0_beginAnew (X : CX) (Q : State → Prop) {I : Mem} {P : PMem} {O : Nat → Int64} {D : Bool} {n : Nat} {z0 : Nat} {z1 : Nat} {r : (Mem)}  (hz0 : z0 < 2) (hz1 : z1 < 2) (h : f_X0_beginAnew z0 z1 I = some r) (E : EndR X cX0_beginAnew RX0 2 (none) 2 n none r P O D Q) : Here X cX0_beginAnew RX0 2 (none) 2 n 0 [some (.inr (.inr (0, z0, 0))), some (.inr (.inr (3, z1, 0)))] [] I P O D n Q := by
  unfold f_X0_beginAnew at h
  refine h_aload_n dX0_beginAnew_0 rfl ?_
  refine g_X0_39 (by omega) dX0_beginAnew_1 ?_
  refine h_iconst (0 : Int32) dX0_beginAnew_4 k_iconst_0 ?_
  refine h_aload_n dX0_beginAnew_5 rfl ?_
  refine g_X0_9 (by omega) dX0_beginAnew_6 ?_
  refine h_iconst (0 : Int32) dX0_beginAnew_9 k_iconst_0 ?_
  refine h_iconst (5 : Int32) dX0_beginAnew_10 k_iconst_5 ?_
  obtain ⟨g1, h⟩ := gd_some h
  obtain ⟨I1', e1, h⟩ := bnd_some h
  refine h_copy dX0_beginAnew_11 ml_X0_44 wa1 wa2 wa3 (by decide) rfl rfl (ok_34 (by omega)) rfl (ok_9 (by omega)) g1 ?_
  refine h_nmI e1 ?_
  refine h_aload_n dX0_beginAnew_14 rfl ?_
  refine h_aload_n dX0_beginAnew_15 rfl ?_
  refine g_X0_50 (by omega) dX0_beginAnew_16 ?_
  obtain ⟨I2', e2, h⟩ := bnd_some h
  refine p_X0_54 (by omega) dX0_beginAnew_19 ?_
  refine h_nmI e2 ?_
  refine h_aload_n dX0_beginAnew_22 rfl ?_
  refine g_X0_20 (by omega) dX0_beginAnew_23 ?_
  refine h_iconst (0 : Int32) dX0_beginAnew_26 k_iconst_0 ?_
  obtain ⟨I3', e3, h⟩ := bnd_some h
  refine p_X0_55 (by omega) dX0_beginAnew_27 ?_
  refine h_nmI e3 ?_
  refine h_aload_n dX0_beginAnew_30 rfl ?_
  refine g_X0_24 (by omega) dX0_beginAnew_31 ?_
  refine h_iconst (0 : Int32) dX0_beginAnew_34 k_iconst_0 ?_
  obtain ⟨I4', e4, h⟩ := bnd_some h
  refine p_X0_55 (by omega) dX0_beginAnew_35 ?_
  refine h_nmI e4 ?_
  refine h_aload_n dX0_beginAnew_38 rfl ?_
  refine g_X0_27 (by omega) dX0_beginAnew_39 ?_
  refine h_iconst (0 : Int32) dX0_beginAnew_42 k_iconst_0 ?_
  obtain ⟨I5', e5, h⟩ := bnd_some h
  refine p_X0_55 (by omega) dX0_beginAnew_43 ?_
  refine h_nmI e5 ?_
  refine h_aload_n dX0_beginAnew_46 rfl ?_
  refine g_X0_30 (by omega) dX0_beginAnew_47 ?_
  refine h_iconst (0 : Int32) dX0_beginAnew_50 k_iconst_0 ?_
  obtain ⟨I6', e6, h⟩ := bnd_some h
  refine p_X0_55 (by omega) dX0_beginAnew_51 ?_
  refine h_nmI e6 ?_
  refine h_aload_n dX0_beginAnew_54 rfl ?_
  refine g_X0_33 (by omega) dX0_beginAnew_55 ?_
  refine h_iconst (0 : Int32) dX0_beginAnew_58 k_iconst_0 ?_
  obtain ⟨I7', e7, h⟩ := bnd_some h
  refine p_X0_55 (by omega) dX0_beginAnew_59 ?_
  refine h_nmI e7 ?_
  cases h
  exact h_vret dX0_beginAnew_62 rfl E
theorem m_X0_beginAnew {I : Mem} {P : PMem} {O : Nat → Int64} {D : Bool} {n : Nat} {z0 : Nat} {z1 : Nat} {r : (Mem)} (hz0 : z0 < 2) (hz1 : z1 < 2) (h : f_X0_beginAnew z0 z1 I = some r) : MethR yX0_beginAnew cX0_beginAnew 2 (none) 2 [.inr (.inr (0, z0, 0)), .inr (.inr (3, z1, 0))] I P O D n none r P O D n := meth_R (Nat.le_refl _) (by decide) rfl (Nat.le_of_ble_eq_true rfl) rfl (fun X Q E => b_X0_beginAnew X Q hz0 hz1 h E)
def f_X6_copyFrom  (z0 : Nat) (z1 : Nat) (I : Mem) : Option (Mem) :=
  bnd (upd4 I 6 z0 0 3 (jmin (I 6 z1 0 3) (Int32.ofNat (rowsLen z0)))) fun I1' =>
  gd (cpOK (0 : Int32) (0 : Int32) (I1' 6 z0 0 3) (rowsLen z1) (rowsLen z0)) <|
  bnd (updR I1' 44 z0 0 (va_cpy (I1' 44 z1 0) (I1' 44 z0 0) (0 : Int32).toNatClampNeg (0 : Int32).toNatClampNeg (I1' 6 z0 0 3).toNatClampNeg)) fun I2' =>
  gd (cpOK (0 : Int32) (0 : Int32) (I2' 6 z0 0 3) (rowsLen z1) (rowsLen z0)) <|
  bnd (updR I2' 45 z0 0 (va_cpy (I2' 45 z1 0) (I2' 45 z0 0) (0 : Int32).toNatClampNeg (0 : Int32).toNatClampNeg (I2' 6 z0 0 3).toNatClampNeg)) fun I3' =>
  gd (cpOK (0 : Int32) (0 : Int32) (I3' 6 z0 0 3) (rowsLen z1) (rowsLen z0)) <|
  bnd (updR I3' 46 z0 0 (va_cpy (I3' 46 z1 0) (I3' 46 z0 0) (0 : Int32).toNatClampNeg (0 : Int32).toNatClampNeg (I3' 6 z0 0 3).toNatClampNeg)) fun I4' =>
  some I4'
theorem b_X6_copyFrom (X : CX) (Q : State → Prop) {I : Mem} {P : PMem} {O : Nat → Int64} {D : Bool} {n : Nat} {z0 : Nat} {z1 : Nat} {r : (Mem)}  (hz0 : z0 < 10) (hz1 : z1 < 10) (h : f_X6_copyFrom z0 z1 I = some r) (E : EndR X cX6_copyFrom RX6 2 (none) 2 n none r P O D Q) : Here X cX6_copyFrom RX6 2 (none) 2 n 0 [some (.inr (.inr (6, z0, 0))), some (.inr (.inr (6, z1, 0)))] [] I P O D n Q := by
  unfold f_X6_copyFrom at h
  refine h_aload_n dX6_copyFrom_0 rfl ?_
  refine h_aload_n dX6_copyFrom_1 rfl ?_
  refine g_X6_25 (by omega) dX6_copyFrom_2 ?_
  refine h_aload_n dX6_copyFrom_5 rfl ?_
  refine g_X6_13 (by omega) dX6_copyFrom_6 ?_
  refine h_aleni (Int32.ofNat (rowsLen z0)) rfl dX6_copyFrom_9 (ok_44 (by omega)) rfl ?_
  refine h_min dX6_copyFrom_10 ml_X6_42 wm1_min wm2 wm3_min (by decide) rfl ?_
  obtain ⟨I1', e1, h⟩ := bnd_some h
  refine p_X6_25 (by omega) dX6_copyFrom_13 ?_
  refine h_nmI e1 ?_
  refine h_aload_n dX6_copyFrom_16 rfl ?_
  refine g_X6_13 (by omega) dX6_copyFrom_17 ?_
  refine h_iconst (0 : Int32) dX6_copyFrom_20 k_iconst_0 ?_
  refine h_aload_n dX6_copyFrom_21 rfl ?_
  refine g_X6_13 (by omega) dX6_copyFrom_22 ?_
  refine h_iconst (0 : Int32) dX6_copyFrom_25 k_iconst_0 ?_
  refine h_aload_n dX6_copyFrom_26 rfl ?_
  refine g_X6_25 (by omega) dX6_copyFrom_27 ?_
  obtain ⟨g1, h⟩ := gd_some h
  obtain ⟨I2', e2, h⟩ := bnd_some h
  refine h_copy dX6_copyFrom_30 ml_X6_36 wa1 wa2 wa3 (by decide) rfl rfl (ok_44 (by omega)) rfl (ok_44 (by omega)) g1 ?_
  refine h_nmI e2 ?_
  refine h_aload_n dX6_copyFrom_33 rfl ?_
  refine g_X6_19 (by omega) dX6_copyFrom_34 ?_
  refine h_iconst (0 : Int32) dX6_copyFrom_37 k_iconst_0 ?_
  refine h_aload_n dX6_copyFrom_38 rfl ?_
  refine g_X6_19 (by omega) dX6_copyFrom_39 ?_
  refine h_iconst (0 : Int32) dX6_copyFrom_42 k_iconst_0 ?_
  refine h_aload_n dX6_copyFrom_43 rfl ?_
  refine g_X6_25 (by omega) dX6_copyFrom_44 ?_
  obtain ⟨g2, h⟩ := gd_some h
  obtain ⟨I3', e3, h⟩ := bnd_some h
  refine h_copy dX6_copyFrom_47 ml_X6_36 wa1 wa2 wa3 (by decide) rfl rfl (ok_45 (by omega)) rfl (ok_45 (by omega)) g2 ?_
  refine h_nmI e3 ?_
  refine h_aload_n dX6_copyFrom_50 rfl ?_
  refine g_X6_22 (by omega) dX6_copyFrom_51 ?_
  refine h_iconst (0 : Int32) dX6_copyFrom_54 k_iconst_0 ?_
  refine h_aload_n dX6_copyFrom_55 rfl ?_
  refine g_X6_22 (by omega) dX6_copyFrom_56 ?_
  refine h_iconst (0 : Int32) dX6_copyFrom_59 k_iconst_0 ?_
  refine h_aload_n dX6_copyFrom_60 rfl ?_
  refine g_X6_25 (by omega) dX6_copyFrom_61 ?_
  obtain ⟨g3, h⟩ := gd_some h
  obtain ⟨I4', e4, h⟩ := bnd_some h
  refine h_copy dX6_copyFrom_64 ml_X6_36 wa1 wa2 wa3 (by decide) rfl rfl (ok_46 (by omega)) rfl (ok_46 (by omega)) g3 ?_
  refine h_nmI e4 ?_
  cases h
  exact h_vret dX6_copyFrom_67 rfl E
theorem m_X6_copyFrom {I : Mem} {P : PMem} {O : Nat → Int64} {D : Bool} {n : Nat} {z0 : Nat} {z1 : Nat} {r : (Mem)} (hz0 : z0 < 10) (hz1 : z1 < 10) (h : f_X6_copyFrom z0 z1 I = some r) : MethR yX6_copyFrom cX6_copyFrom 2 (none) 2 [.inr (.inr (6, z0, 0)), .inr (.inr (6, z1, 0))] I P O D n none r P O D n := meth_R (Nat.le_refl _) (by decide) rfl (Nat.le_of_ble_eq_true rfl) rfl (fun X Q E => b_X6_copyFrom X Q hz0 hz1 h E)
def f_X0_copyFrom  (z0 : Nat) (z1 : Nat) (I : Mem) : Option (Mem) :=
  gd (cpOK (0 : Int32) (0 : Int32) (5 : Int32) 5 5) <|
  bnd (updR I 9 z0 0 (va_cpy (I 9 z1 0) (I 9 z0 0) (0 : Int32).toNatClampNeg (0 : Int32).toNatClampNeg (5 : Int32).toNatClampNeg)) fun I1' =>
  bnd (upd4 I1' 0 z0 0 1 (I1' 0 z1 0 1)) fun I2' =>
  (f_X6_copyFrom (5 * z0 + 0) (5 * z1 + 0) I2').bind fun y1 =>
  (f_X6_copyFrom (5 * z0 + 1) (5 * z1 + 1) y1).bind fun y2 =>
  (f_X6_copyFrom (5 * z0 + 2) (5 * z1 + 2) y2).bind fun y3 =>
  (f_X6_copyFrom (5 * z0 + 3) (5 * z1 + 3) y3).bind fun y4 =>
  (f_X6_copyFrom (5 * z0 + 4) (5 * z1 + 4) y4).bind fun y5 =>
  gd (cpOK (0 : Int32) (0 : Int32) (3 : Int32) 3 3) <|
  bnd (updR y5 10 z0 0 (va_cpy (y5 10 z1 0) (y5 10 z0 0) (0 : Int32).toNatClampNeg (0 : Int32).toNatClampNeg (3 : Int32).toNatClampNeg)) fun I3' =>
  some I3'
theorem b_X0_copyFrom (X : CX) (Q : State → Prop) {I : Mem} {P : PMem} {O : Nat → Int64} {D : Bool} {n : Nat} {z0 : Nat} {z1 : Nat} {r : (Mem)}  (hz0 : z0 < 2) (hz1 : z1 < 2) (h : f_X0_copyFrom z0 z1 I = some r) (E : EndR X cX0_copyFrom RX0 2 (none) 3 n none r P O D Q) : Here X cX0_copyFrom RX0 2 (none) 3 n 0 [some (.inr (.inr (0, z0, 0))), some (.inr (.inr (0, z1, 0)))] [] I P O D n Q := by
  unfold f_X0_copyFrom at h
  refine h_aload_n dX0_copyFrom_0 rfl ?_
  refine g_X0_9 (by omega) dX0_copyFrom_1 ?_
  refine h_iconst (0 : Int32) dX0_copyFrom_4 k_iconst_0 ?_
  refine h_aload_n dX0_copyFrom_5 rfl ?_
  refine g_X0_9 (by omega) dX0_copyFrom_6 ?_
  refine h_iconst (0 : Int32) dX0_copyFrom_9 k_iconst_0 ?_
  refine h_iconst (5 : Int32) dX0_copyFrom_10 k_iconst_5 ?_
  obtain ⟨g1, h⟩ := gd_some h
  obtain ⟨I1', e1, h⟩ := bnd_some h
  refine h_copy dX0_copyFrom_11 ml_X0_44 wa1 wa2 wa3 (by decide) rfl rfl (ok_9 (by omega)) rfl (ok_9 (by omega)) g1 ?_
  refine h_nmI e1 ?_
  refine h_aload_n dX0_copyFrom_14 rfl ?_
  refine h_aload_n dX0_copyFrom_15 rfl ?_
  refine g_X0_54 (by omega) dX0_copyFrom_16 ?_
  obtain ⟨I2', e2, h⟩ := bnd_some h
  refine p_X0_54 (by omega) dX0_copyFrom_19 ?_
  refine h_nmI e2 ?_
  refine h_aload_n dX0_copyFrom_22 rfl ?_
  refine g_X0_20 (by omega) dX0_copyFrom_23 ?_
  refine h_aload_n dX0_copyFrom_26 rfl ?_
  refine g_X0_20 (by omega) dX0_copyFrom_27 ?_
  obtain ⟨y1, hh1, h⟩ := obd_some h
  refine h_cVv [.inr (.inr (6, (5 * z1 + 0), 0))] (m_X6_copyFrom (by omega) (by omega) hh1) cw_X0_58 dX0_copyFrom_30 rfl (ok_6 (by omega)) (by decide) rfl (Or.inr rfl) rfl ?_
  refine h_aload_n dX0_copyFrom_33 rfl ?_
  refine g_X0_24 (by omega) dX0_copyFrom_34 ?_
  refine h_aload_n dX0_copyFrom_37 rfl ?_
  refine g_X0_24 (by omega) dX0_copyFrom_38 ?_
  obtain ⟨y2, hh2, h⟩ := obd_some h
  refine h_cVv [.inr (.inr (6, (5 * z1 + 1), 0))] (m_X6_copyFrom (by omega) (by omega) hh2) cw_X0_58 dX0_copyFrom_41 rfl (ok_6 (by omega)) (by decide) rfl (Or.inr rfl) rfl ?_
  refine h_aload_n dX0_copyFrom_44 rfl ?_
  refine g_X0_27 (by omega) dX0_copyFrom_45 ?_
  refine h_aload_n dX0_copyFrom_48 rfl ?_
  refine g_X0_27 (by omega) dX0_copyFrom_49 ?_
  obtain ⟨y3, hh3, h⟩ := obd_some h
  refine h_cVv [.inr (.inr (6, (5 * z1 + 2), 0))] (m_X6_copyFrom (by omega) (by omega) hh3) cw_X0_58 dX0_copyFrom_52 rfl (ok_6 (by omega)) (by decide) rfl (Or.inr rfl) rfl ?_
  refine h_aload_n dX0_copyFrom_55 rfl ?_
  refine g_X0_30 (by omega) dX0_copyFrom_56 ?_
  refine h_aload_n dX0_copyFrom_59 rfl ?_
  refine g_X0_30 (by omega) dX0_copyFrom_60 ?_
  obtain ⟨y4, hh4, h⟩ := obd_some h
  refine h_cVv [.inr (.inr (6, (5 * z1 + 3), 0))] (m_X6_copyFrom (by omega) (by omega) hh4) cw_X0_58 dX0_copyFrom_63 rfl (ok_6 (by omega)) (by decide) rfl (Or.inr rfl) rfl ?_
  refine h_aload_n dX0_copyFrom_66 rfl ?_
  refine g_X0_33 (by omega) dX0_copyFrom_67 ?_
  refine h_aload_n dX0_copyFrom_70 rfl ?_
  refine g_X0_33 (by omega) dX0_copyFrom_71 ?_
  obtain ⟨y5, hh5, h⟩ := obd_some h
  refine h_cVv [.inr (.inr (6, (5 * z1 + 4), 0))] (m_X6_copyFrom (by omega) (by omega) hh5) cw_X0_58 dX0_copyFrom_74 rfl (ok_6 (by omega)) (by decide) rfl (Or.inr rfl) rfl ?_
  refine h_aload_n dX0_copyFrom_77 rfl ?_
  refine g_X0_36 (by omega) dX0_copyFrom_78 ?_
  refine h_iconst (0 : Int32) dX0_copyFrom_81 k_iconst_0 ?_
  refine h_aload_n dX0_copyFrom_82 rfl ?_
  refine g_X0_36 (by omega) dX0_copyFrom_83 ?_
  refine h_iconst (0 : Int32) dX0_copyFrom_86 k_iconst_0 ?_
  refine h_aload_n dX0_copyFrom_87 rfl ?_
  refine g_X0_36 (by omega) dX0_copyFrom_88 ?_
  refine h_aleni (3 : Int32) rfl dX0_copyFrom_91 (ok_10 (by omega)) rfl ?_
  obtain ⟨g2, h⟩ := gd_some h
  obtain ⟨I3', e3, h⟩ := bnd_some h
  refine h_copy dX0_copyFrom_92 ml_X0_44 wa1 wa2 wa3 (by decide) rfl rfl (ok_10 (by omega)) rfl (ok_10 (by omega)) g2 ?_
  refine h_nmI e3 ?_
  cases h
  exact h_vret dX0_copyFrom_95 rfl E
theorem m_X0_copyFrom {I : Mem} {P : PMem} {O : Nat → Int64} {D : Bool} {n : Nat} {z0 : Nat} {z1 : Nat} {r : (Mem)} (hz0 : z0 < 2) (hz1 : z1 < 2) (h : f_X0_copyFrom z0 z1 I = some r) : MethR yX0_copyFrom cX0_copyFrom 2 (none) 3 [.inr (.inr (0, z0, 0)), .inr (.inr (0, z1, 0))] I P O D n none r P O D n := meth_R (Nat.le_refl _) (by decide) rfl (Nat.le_of_ble_eq_true rfl) rfl (fun X Q E => b_X0_copyFrom X Q hz0 hz1 h E)
def f_X6_dropLast  (z0 : Nat) (I : Mem) : Option (Mem) :=
  if (I 6 z0 0 3) ≤ 0 then (some I) else (bnd (upd4 I 6 z0 0 3 ((I 6 z0 0 3) - (1 : Int32))) fun I1' =>
  some I1')
theorem b_X6_dropLast (X : CX) (Q : State → Prop) {I : Mem} {P : PMem} {O : Nat → Int64} {D : Bool} {n : Nat} {z0 : Nat} {r : (Mem)}  (hz0 : z0 < 10) (h : f_X6_dropLast z0 I = some r) (E : EndR X cX6_dropLast RX6 1 (none) 2 n none r P O D Q) : Here X cX6_dropLast RX6 1 (none) 2 n 0 [some (.inr (.inr (6, z0, 0)))] [] I P O D n Q := by
  unfold f_X6_dropLast at h
  refine h_aload_n dX6_dropLast_0 rfl ?_
  refine g_X6_25 (by omega) dX6_dropLast_1 ?_
  refine h_if_le (tgt := 17) dX6_dropLast_4 (by decide) (fun q1 => ?_) (fun q1 => ?_)
  · rw [if_pos q1] at h
    cases h
    exact h_vret dX6_dropLast_17 rfl E
  · rw [if_neg q1] at h
    refine h_aload_n dX6_dropLast_7 rfl ?_
    refine h_dup dX6_dropLast_8 (fun _ => rfl) ?_
    refine g_X6_25 (by omega) dX6_dropLast_9 ?_
    refine h_iconst (1 : Int32) dX6_dropLast_12 k_iconst_1 ?_
    refine h_isub dX6_dropLast_13 ?_
    obtain ⟨I1', e1, h⟩ := bnd_some h
    refine p_X6_25 (by omega) dX6_dropLast_14 ?_
    refine h_nmI e1 ?_
    cases h
    exact h_vret dX6_dropLast_17 rfl E
theorem m_X6_dropLast {I : Mem} {P : PMem} {O : Nat → Int64} {D : Bool} {n : Nat} {z0 : Nat} {r : (Mem)} (hz0 : z0 < 10) (h : f_X6_dropLast z0 I = some r) : MethR yX6_dropLast cX6_dropLast 1 (none) 2 [.inr (.inr (6, z0, 0))] I P O D n none r P O D n := meth_R (Nat.le_refl _) (by decide) rfl (Nat.le_of_ble_eq_true rfl) rfl (fun X Q E => b_X6_dropLast X Q hz0 h E)
def f_X0_takeBackLastAct  (z0 : Nat) (I : Mem) : Option (Mem) :=
  if (I 6 (5 * z0 + 3) 0 3) = 0 then (some I) else ((f_X6_dropLast (5 * z0 + 3) I).bind fun y1 =>
  gd (inb (y1 6 (5 * z0 + 3) 0 3) (rowsLen (5 * z0 + 3))) <|
  bnd (y1 45 (5 * z0 + 3) 0 ((y1 6 (5 * z0 + 3) 0 3).toNatClampNeg)) fun x1 =>
  (if (y1 44 (5 * z0 + 3) 0 ((y1 6 (5 * z0 + 3) 0 3).toNatClampNeg)) = (0 : Int32) then (gd (inb x1 5) <|
  bnd (upd4 y1 9 z0 0 x1.toNatClampNeg (y1 46 (5 * z0 + 3) 0 ((y1 6 (5 * z0 + 3) 0 3).toNatClampNeg))) fun I1' =>
  some I1') else (if (y1 44 (5 * z0 + 3) 0 ((y1 6 (5 * z0 + 3) 0 3).toNatClampNeg)) = (1 : Int32) then (bnd (upd4 y1 0 z0 0 1 ((y1 0 z0 0 1) ^^^ (jshl (1 : Int32) x1))) fun I2' =>
  some I2') else (if (y1 44 (5 * z0 + 3) 0 ((y1 6 (5 * z0 + 3) 0 3).toNatClampNeg)) = (2 : Int32) then ((f_X6_dropLast (5 * z0 + 0) y1).bind fun y2 =>
  some y2) else (if (y1 44 (5 * z0 + 3) 0 ((y1 6 (5 * z0 + 3) 0 3).toNatClampNeg)) = (3 : Int32) then ((f_X6_dropLast (5 * z0 + 1) y1).bind fun y3 =>
  some y3) else ((f_X6_dropLast (5 * z0 + 2) y1).bind fun y4 =>
  some y4))))))
theorem b_X0_takeBackLastAct (X : CX) (Q : State → Prop) {I : Mem} {P : PMem} {O : Nat → Int64} {D : Bool} {n : Nat} {z0 : Nat} {r : (Mem)}  (hz0 : z0 < 2) (h : f_X0_takeBackLastAct z0 I = some r) (E : EndR X cX0_takeBackLastAct RX0 2 (none) 3 n none r P O D Q) : Here X cX0_takeBackLastAct RX0 2 (none) 3 n 0 [some (.inr (.inr (0, z0, 0))), none] [] I P O D n Q := by
  unfold f_X0_takeBackLastAct at h
  refine h_aload_n dX0_takeBackLastAct_0 rfl ?_
  refine g_X0_30 (by omega) dX0_takeBackLastAct_1 ?_
  refine g_X0_55 (by omega) dX0_takeBackLastAct_4 ?_
  refine h_if_ne (tgt := 11) dX0_takeBackLastAct_7 (by decide) (fun q1 => ?_) (fun q1 => ?_)
  · rw [if_neg q1] at h
    refine h_aload_n dX0_takeBackLastAct_11 rfl ?_
    refine g_X0_30 (by omega) dX0_takeBackLastAct_12 ?_
    obtain ⟨y1, hh1, h⟩ := obd_some h
    refine h_cVv [] (m_X6_dropLast (by omega) hh1) cw_X0_62 dX0_takeBackLastAct_15 rfl (ok_6 (by omega)) (by decide) rfl (Or.inr rfl) rfl ?_
    refine h_aload_n dX0_takeBackLastAct_18 rfl ?_
    refine g_X0_30 (by omega) dX0_takeBackLastAct_19 ?_
    refine g_X0_65 (by omega) dX0_takeBackLastAct_22 ?_
    refine h_aload_n dX0_takeBackLastAct_25 rfl ?_
    refine g_X0_30 (by omega) dX0_takeBackLastAct_26 ?_
    refine g_X0_55 (by omega) dX0_takeBackLastAct_29 ?_
    obtain ⟨g1, h⟩ := gd_some h
    refine al_45 (by omega) ((y1 6 (5 * z0 + 3) 0 3).toNatClampNeg) rfl dX0_takeBackLastAct_32 g1 ?_
    obtain ⟨x1, e1, h⟩ := bnd_some h
    refine h_nmv e1 ?_
    refine h_istore_n dX0_takeBackLastAct_33 (by decide) rfl ?_
    refine h_aload_n dX0_takeBackLastAct_34 rfl ?_
    refine g_X0_30 (by omega) dX0_takeBackLastAct_35 ?_
    refine g_X0_68 (by omega) dX0_takeBackLastAct_38 ?_
    refine h_aload_n dX0_takeBackLastAct_41 rfl ?_
    refine g_X0_30 (by omega) dX0_takeBackLastAct_42 ?_
    refine g_X0_55 (by omega) dX0_takeBackLastAct_45 ?_
    refine al_44 (by omega) ((y1 6 (5 * z0 + 3) 0 3).toNatClampNeg) rfl dX0_takeBackLastAct_48 g1 ?_
    by_cases q2 : (y1 44 (5 * z0 + 3) 0 ((y1 6 (5 * z0 + 3) 0 3).toNatClampNeg)) = (0 : Int32)
    · rw [if_pos q2] at h
      refine h_tswIn (tgt := 80) 0 dX0_takeBackLastAct_49 (by rw [q2]; decide) (by decide) rfl (by decide) ?_
      refine h_aload_n dX0_takeBackLastAct_80 rfl ?_
      refine g_X0_9 (by omega) dX0_takeBackLastAct_81 ?_
      refine h_iload_n dX0_takeBackLastAct_84 rfl ?_
      refine h_aload_n dX0_takeBackLastAct_85 rfl ?_
      refine g_X0_30 (by omega) dX0_takeBackLastAct_86 ?_
      refine g_X0_71 (by omega) dX0_takeBackLastAct_89 ?_
      refine h_aload_n dX0_takeBackLastAct_92 rfl ?_
      refine g_X0_30 (by omega) dX0_takeBackLastAct_93 ?_
      refine g_X0_55 (by omega) dX0_takeBackLastAct_96 ?_
      refine al_46 (by omega) ((y1 6 (5 * z0 + 3) 0 3).toNatClampNeg) rfl dX0_takeBackLastAct_99 g1 ?_
      obtain ⟨g2, h⟩ := gd_some h
      obtain ⟨I1', e2, h⟩ := bnd_some h
      refine as_9 (by omega) x1.toNatClampNeg rfl dX0_takeBackLastAct_100 g2 ?_
      refine h_nmI e2 ?_
      refine h_goto (tgt := 146) dX0_takeBackLastAct_101 (by decide) ?_
      cases h
      exact h_vret dX0_takeBackLastAct_146 rfl E
    · rw [if_neg q2] at h
      by_cases q3 : (y1 44 (5 * z0 + 3) 0 ((y1 6 (5 * z0 + 3) 0 3).toNatClampNeg)) = (1 : Int32)
      · rw [if_pos q3] at h
        refine h_tswIn (tgt := 104) 1 dX0_takeBackLastAct_49 (by rw [q3]; decide) (by decide) rfl (by decide) ?_
        refine h_aload_n dX0_takeBackLastAct_104 rfl ?_
        refine h_dup dX0_takeBackLastAct_105 (fun _ => rfl) ?_
        refine g_X0_54 (by omega) dX0_takeBackLastAct_106 ?_
        refine h_iconst (1 : Int32) dX0_takeBackLastAct_109 k_iconst_1 ?_
        refine h_iload_n dX0_takeBackLastAct_110 rfl ?_
        refine h_shl dX0_takeBackLastAct_111 ?_
        refine h_ixor dX0_takeBackLastAct_112 ?_
        obtain ⟨I2', e3, h⟩ := bnd_some h
        refine p_X0_54 (by omega) dX0_takeBackLastAct_113 ?_
        refine h_nmI e3 ?_
        refine h_goto (tgt := 146) dX0_takeBackLastAct_116 (by decide) ?_
        cases h
        exact h_vret dX0_takeBackLastAct_146 rfl E
      · rw [if_neg q3] at h
        by_cases q4 : (y1 44 (5 * z0 + 3) 0 ((y1 6 (5 * z0 + 3) 0 3).toNatClampNeg)) = (2 : Int32)
        · rw [if_pos q4] at h
          refine h_tswIn (tgt := 119) 2 dX0_takeBackLastAct_49 (by rw [q4]; decide) (by decide) rfl (by decide) ?_
          refine h_aload_n dX0_takeBackLastAct_119 rfl ?_
          refine g_X0_20 (by omega) dX0_takeBackLastAct_120 ?_
          obtain ⟨y2, hh2, h⟩ := obd_some h
          refine h_cVv [] (m_X6_dropLast (by omega) hh2) cw_X0_62 dX0_takeBackLastAct_123 rfl (ok_6 (by omega)) (by decide) rfl (Or.inr rfl) rfl ?_
          refine h_goto (tgt := 146) dX0_takeBackLastAct_126 (by decide) ?_
          cases h
          exact h_vret dX0_takeBackLastAct_146 rfl E
        · rw [if_neg q4] at h
          by_cases q5 : (y1 44 (5 * z0 + 3) 0 ((y1 6 (5 * z0 + 3) 0 3).toNatClampNeg)) = (3 : Int32)
          · rw [if_pos q5] at h
            refine h_tswIn (tgt := 129) 3 dX0_takeBackLastAct_49 (by rw [q5]; decide) (by decide) rfl (by decide) ?_
            refine h_aload_n dX0_takeBackLastAct_129 rfl ?_
            refine g_X0_24 (by omega) dX0_takeBackLastAct_130 ?_
            obtain ⟨y3, hh3, h⟩ := obd_some h
            refine h_cVv [] (m_X6_dropLast (by omega) hh3) cw_X0_62 dX0_takeBackLastAct_133 rfl (ok_6 (by omega)) (by decide) rfl (Or.inr rfl) rfl ?_
            refine h_goto (tgt := 146) dX0_takeBackLastAct_136 (by decide) ?_
            cases h
            exact h_vret dX0_takeBackLastAct_146 rfl E
          · rw [if_neg q5] at h
            refine h_tswOut (tgt := 139) dX0_takeBackLastAct_49 ?_ (by decide) ?_
            · have n0 : (y1 44 (5 * z0 + 3) 0 ((y1 6 (5 * z0 + 3) 0 3).toNatClampNeg)).toInt ≠ 0 := fun e => q2 (Int32.toInt_inj.mp (e.trans (by decide)))
              have n1 : (y1 44 (5 * z0 + 3) 0 ((y1 6 (5 * z0 + 3) 0 3).toNatClampNeg)).toInt ≠ 1 := fun e => q3 (Int32.toInt_inj.mp (e.trans (by decide)))
              have n2 : (y1 44 (5 * z0 + 3) 0 ((y1 6 (5 * z0 + 3) 0 3).toNatClampNeg)).toInt ≠ 2 := fun e => q4 (Int32.toInt_inj.mp (e.trans (by decide)))
              have n3 : (y1 44 (5 * z0 + 3) 0 ((y1 6 (5 * z0 + 3) 0 3).toNatClampNeg)).toInt ≠ 3 := fun e => q5 (Int32.toInt_inj.mp (e.trans (by decide)))
              omega
            · refine h_aload_n dX0_takeBackLastAct_139 rfl ?_
              refine g_X0_27 (by omega) dX0_takeBackLastAct_140 ?_
              obtain ⟨y4, hh4, h⟩ := obd_some h
              refine h_cVv [] (m_X6_dropLast (by omega) hh4) cw_X0_62 dX0_takeBackLastAct_143 rfl (ok_6 (by omega)) (by decide) rfl (Or.inr rfl) rfl ?_
              cases h
              exact h_vret dX0_takeBackLastAct_146 rfl E
  · rw [if_pos q1] at h
    cases h
    exact h_vret dX0_takeBackLastAct_10 rfl E
theorem m_X0_takeBackLastAct {I : Mem} {P : PMem} {O : Nat → Int64} {D : Bool} {n : Nat} {z0 : Nat} {r : (Mem)} (hz0 : z0 < 2) (h : f_X0_takeBackLastAct z0 I = some r) : MethR yX0_takeBackLastAct cX0_takeBackLastAct 2 (none) 3 [.inr (.inr (0, z0, 0))] I P O D n none r P O D n := meth_R (Nat.le_refl _) (by decide) rfl (Nat.le_of_ble_eq_true rfl) rfl (fun X Q E => b_X0_takeBackLastAct X Q hz0 h E)
def f_X1_sendOut_84 (k17 : Mem → Int32 → Int32 → Int32 → Int32 → Int32 → Option (Mem)) (P : PMem) (z0 : Nat) (I : Mem) (v1 : Int32) (v3 : Int32) (v4 : Int32) (v5 : Int32) (v6 : Int32) (v7 : Int32) : Option (Mem) :=
  gd (inb v1 5) <|
  gd (inb v6 7) <|
  bnd (upd4 I 12 z0 v1.toNatClampNeg v6.toNatClampNeg v7) fun I1' =>
  bnd (upd4 I1' 14 z0 v1.toNatClampNeg v6.toNatClampNeg v5) fun I2' =>
  k17 I2' v1 v3 v4 v5 (v6 + (1 : Int32))
theorem b_X1_sendOut_84 (X : CX) (Q : State → Prop) {I : Mem} {P : PMem} {O : Nat → Int64} {D : Bool} {n : Nat} {k17 : Mem → Int32 → Int32 → Int32 → Int32 → Int32 → Option (Mem)} {z0 : Nat} {v1 : Int32} {v3 : Int32} {v4 : Int32} {v5 : Int32} {v6 : Int32} {v7 : Int32} {r : (Mem)}  (H17 : ∀ (I : Mem) (v1 : Int32) (v3 : Int32) (v4 : Int32) (v5 : Int32) (v6 : Int32), k17 I v1 v3 v4 v5 v6 = some r → Here X cX1_sendOut RX1 8 (none) 2 n 17 [some (.inr (.inr (1, z0, 0))), some (.inl v1), none, some (.inl v3), some (.inl v4), some (.inl v5), some (.inl v6), none] [] I P O D n Q) (hz0 : z0 < 2) (h : f_X1_sendOut_84 k17 P z0 I v1 v3 v4 v5 v6 v7 = some r) (E : EndR X cX1_sendOut RX1 8 (none) 2 n none r P O D Q) : Here X cX1_sendOut RX1 8 (none) 2 n 84 [some (.inr (.inr (1, z0, 0))), some (.inl v1), none, some (.inl v3), some (.inl v4), some (.inl v5), some (.inl v6), some (.inl v7)] [] I P O D n Q := by
  unfold f_X1_sendOut_84 at h
  refine h_aload_n dX1_sendOut_84 rfl ?_
  refine g_X1_11 (by omega) dX1_sendOut_85 ?_
  refine h_iload_n dX1_sendOut_88 rfl ?_
  obtain ⟨g1, h⟩ := gd_some h
  refine ag_11 (by omega) v1.toNatClampNeg rfl dX1_sendOut_89 g1 ?_
  have w1 := inb_lt g1
  refine h_iload dX1_sendOut_90 rfl ?_
  refine h_iload dX1_sendOut_92 rfl ?_
  obtain ⟨g2, h⟩ := gd_some h
  obtain ⟨I1', e1, h⟩ := bnd_some h
  refine as_12 (by omega) (by omega) v6.toNatClampNeg rfl dX1_sendOut_94 g2 ?_
  refine h_nmI e1 ?_
  refine h_aload_n dX1_sendOut_95 rfl ?_
  refine g_X1_16 (by omega) dX1_sendOut_96 ?_
  refine h_iload_n dX1_sendOut_99 rfl ?_
  refine ag_13 (by omega) v1.toNatClampNeg rfl dX1_sendOut_100 g1 ?_
  refine h_iload dX1_sendOut_101 rfl ?_
  refine h_iload dX1_sendOut_103 rfl ?_
  obtain ⟨I2', e2, h⟩ := bnd_some h
  refine as_14 (by omega) (by omega) v6.toNatClampNeg rfl dX1_sendOut_105 g2 ?_
  refine h_nmI e2 ?_
  refine h_iinc (1 : Int32) dX1_sendOut_106 rfl k_iinc_1 (by decide) rfl ?_
  refine h_goto (tgt := 17) dX1_sendOut_109 (by decide) ?_
  exact h_mask [true, true, false, true, true, true, true, false] (H17 _ _ _ _ _ _ h)
def f_X1_sendOut_49 (k17 : Mem → Int32 → Int32 → Int32 → Int32 → Int32 → Option (Mem)) (P : PMem) (z0 : Nat) (I : Mem) (v1 : Int32) (v3 : Int32) (v4 : Int32) (v5 : Int32) (v6 : Int32) (s0 : Int32) (sz1 : Nat) (sr1 : Nat) : Option (Mem) :=
  gd (inb s0 7) <|
  bnd (I 38 sz1 sr1 s0.toNatClampNeg) fun x1 =>
  if v6 ≤ 0 then (f_X1_sendOut_84 k17 P z0 I v1 v3 v4 v5 v6 x1) else (gd (decide ((P 1 z0 0 0) < 2)) <|
  gd (inb v1 5) <|
  gd (inb (v6 - (1 : Int32)) 7) <|
  gd (inb (I 12 z0 v1.toNatClampNeg ((v6 - (1 : Int32)).toNatClampNeg)) 9) <|
  gd (inb x1 9) <|
  bnd (v5 + (I 28 (P 1 z0 0 0) ((I 12 z0 v1.toNatClampNeg ((v6 - (1 : Int32)).toNatClampNeg)).toNatClampNeg) x1.toNatClampNeg)) fun x2 =>
  f_X1_sendOut_84 k17 P z0 I v1 v3 v4 x2 v6 x1)
theorem b_X1_sendOut_49 (X : CX) (Q : State → Prop) {I : Mem} {P : PMem} {O : Nat → Int64} {D : Bool} {n : Nat} {k17 : Mem → Int32 → Int32 → Int32 → Int32 → Int32 → Option (Mem)} {z0 : Nat} {v1 : Int32} {v3 : Int32} {v4 : Int32} {v5 : Int32} {v6 : Int32} {s0 : Int32} {sz1 : Nat} {sr1 : Nat} {r : (Mem)}  (H17 : ∀ (I : Mem) (v1 : Int32) (v3 : Int32) (v4 : Int32) (v5 : Int32) (v6 : Int32), k17 I v1 v3 v4 v5 v6 = some r → Here X cX1_sendOut RX1 8 (none) 2 n 17 [some (.inr (.inr (1, z0, 0))), some (.inl v1), none, some (.inl v3), some (.inl v4), some (.inl v5), some (.inl v6), none] [] I P O D n Q) (hz0 : z0 < 2) (hsz1 : sz1 < 2) (hsr1 : sr1 < 5) (h : f_X1_sendOut_49 k17 P z0 I v1 v3 v4 v5 v6 s0 sz1 sr1 = some r) (E : EndR X cX1_sendOut RX1 8 (none) 2 n none r P O D Q) : Here X cX1_sendOut RX1 8 (none) 2 n 49 [some (.inr (.inr (1, z0, 0))), some (.inl v1), none, some (.inl v3), some (.inl v4), some (.inl v5), some (.inl v6), none] [.inl s0, .inr (.inr (38, sz1, sr1))] I P O D n Q := by
  unfold f_X1_sendOut_49 at h
  obtain ⟨g1, h⟩ := gd_some h
  refine al_38 (by omega) (by omega) s0.toNatClampNeg rfl dX1_sendOut_49 g1 ?_
  obtain ⟨x1, e1, h⟩ := bnd_some h
  refine h_nmv e1 ?_
  refine h_istore dX1_sendOut_50 (by decide) rfl ?_
  refine h_iload dX1_sendOut_52 rfl ?_
  refine h_if_le (tgt := 84) dX1_sendOut_54 (by decide) (fun q1 => ?_) (fun q1 => ?_)
  · rw [if_pos q1] at h
    exact (b_X1_sendOut_84 X Q H17 hz0  h E)
  · rw [if_neg q1] at h
    refine h_iload dX1_sendOut_57 rfl ?_
    refine h_aload_n dX1_sendOut_59 rfl ?_
    refine g_X1_44 (by omega) dX1_sendOut_60 ?_
    obtain ⟨g2, h⟩ := gd_some h
    have w1 := of_decide_eq_true g2
    refine g_X1_79 (by omega) dX1_sendOut_63 ?_
    refine h_aload_n dX1_sendOut_66 rfl ?_
    refine g_X1_11 (by omega) dX1_sendOut_67 ?_
    refine h_iload_n dX1_sendOut_70 rfl ?_
    obtain ⟨g3, h⟩ := gd_some h
    refine ag_11 (by omega) v1.toNatClampNeg rfl dX1_sendOut_71 g3 ?_
    have w2 := inb_lt g3
    refine h_iload dX1_sendOut_72 rfl ?_
    refine h_iconst (1 : Int32) dX1_sendOut_74 k_iconst_1 ?_
    refine h_isub dX1_sendOut_75 ?_
    obtain ⟨g4, h⟩ := gd_some h
    refine al_12 (by omega) (by omega) ((v6 - (1 : Int32)).toNatClampNeg) rfl dX1_sendOut_76 g4 ?_
    obtain ⟨g5, h⟩ := gd_some h
    refine ag_27 (by omega) ((I 12 z0 v1.toNatClampNeg ((v6 - (1 : Int32)).toNatClampNeg)).toNatClampNeg) rfl dX1_sendOut_77 g5 ?_
    have w3 := inb_lt g5
    refine h_iload dX1_sendOut_78 rfl ?_
    obtain ⟨g6, h⟩ := gd_some h
    refine al_28 (by omega) (by omega) x1.toNatClampNeg rfl dX1_sendOut_80 g6 ?_
    refine h_iadd dX1_sendOut_81 ?_
    obtain ⟨x2, e2, h⟩ := bnd_some h
    refine h_nmv e2 ?_
    refine h_istore dX1_sendOut_82 (by decide) rfl ?_
    exact (b_X1_sendOut_84 X Q H17 hz0  h E)
def f_X1_sendOut_17  (P : PMem) (z0 : Nat) : Nat → Mem → Int32 → Int32 → Int32 → Int32 → Int32 → Option (Mem)
  | 0, _, _, _, _, _, _ => none
  | fu + 1, I, v1, v3, v4, v5, v6 =>
    if v4 ≤ v6 then (some I) else (gd (decide ((P 1 z0 0 0) < 2)) <|
    gd (inb v1 5) <|
    if v3 = 0 then (f_X1_sendOut_49 (f_X1_sendOut_17 P z0 fu) P z0 I v1 v3 v4 v5 v6 v6 (P 1 z0 0 0) v1.toNatClampNeg) else (f_X1_sendOut_49 (f_X1_sendOut_17 P z0 fu) P z0 I v1 v3 v4 v5 v6 ((v4 - (1 : Int32)) - v6) (P 1 z0 0 0) v1.toNatClampNeg))
theorem b_X1_sendOut_17 (X : CX) (Q : State → Prop) {P : PMem} {O : Nat → Int64} {D : Bool} {n : Nat} {z0 : Nat} {r : (Mem)}  (hz0 : z0 < 2) : ∀ (fu : Nat) {I : Mem} {v1 : Int32} {v3 : Int32} {v4 : Int32} {v5 : Int32} {v6 : Int32}, f_X1_sendOut_17 P z0 fu I v1 v3 v4 v5 v6 = some r → EndR X cX1_sendOut RX1 8 (none) 2 n none r P O D Q → Here X cX1_sendOut RX1 8 (none) 2 n 17 [some (.inr (.inr (1, z0, 0))), some (.inl v1), none, some (.inl v3), some (.inl v4), some (.inl v5), some (.inl v6), none] [] I P O D n Q := by
  intro fu
  induction fu with
  | zero => intro I v1 v3 v4 v5 v6 h E; cases h
  | succ fu ih =>
  intro I v1 v3 v4 v5 v6 h E
  have H17 : ∀ (I : Mem) (v1 : Int32) (v3 : Int32) (v4 : Int32) (v5 : Int32) (v6 : Int32), f_X1_sendOut_17 P z0 fu I v1 v3 v4 v5 v6 = some r → Here X cX1_sendOut RX1 8 (none) 2 n 17 [some (.inr (.inr (1, z0, 0))), some (.inl v1), none, some (.inl v3), some (.inl v4), some (.inl v5), some (.inl v6), none] [] I P O D n Q := fun _ _ _ _ _ _ b => ih b E
  simp only [f_X1_sendOut_17] at h
  refine h_iload dX1_sendOut_17 rfl ?_
  refine h_iload dX1_sendOut_19 rfl ?_
  refine h_icmp_ge (tgt := 112) dX1_sendOut_21 (by decide) (fun q1 => ?_) (fun q1 => ?_)
  · rw [if_pos q1] at h
    cases h
    exact h_vret dX1_sendOut_112 rfl E
  · rw [if_neg q1] at h
    refine h_aload_n dX1_sendOut_24 rfl ?_
    refine g_X1_44 (by omega) dX1_sendOut_25 ?_
    obtain ⟨g1, h⟩ := gd_some h
    have w1 := of_decide_eq_true g1
    refine g_X1_76 (by omega) dX1_sendOut_28 ?_
    refine h_iload_n dX1_sendOut_31 rfl ?_
    obtain ⟨g2, h⟩ := gd_some h
    refine ag_37 (by omega) v1.toNatClampNeg rfl dX1_sendOut_32 g2 ?_
    have w2 := inb_lt g2
    refine h_iload_n dX1_sendOut_33 rfl ?_
    refine h_if_eq (tgt := 47) dX1_sendOut_34 (by decide) (fun q2 => ?_) (fun q2 => ?_)
    · rw [if_pos q2] at h
      refine h_iload dX1_sendOut_47 rfl ?_
      exact (b_X1_sendOut_49 X Q H17 hz0 (by omega) (by omega) h E)
    · rw [if_neg q2] at h
      refine h_iload dX1_sendOut_37 rfl ?_
      refine h_iconst (1 : Int32) dX1_sendOut_39 k_iconst_1 ?_
      refine h_isub dX1_sendOut_40 ?_
      refine h_iload dX1_sendOut_41 rfl ?_
      refine h_isub dX1_sendOut_43 ?_
      refine h_goto (tgt := 49) dX1_sendOut_44 (by decide) ?_
      exact (b_X1_sendOut_49 X Q H17 hz0 (by omega) (by omega) h E)
def f_X1_sendOut  (P : PMem) (z0 : Nat) (I : Mem) (v1 : Int32) (v2 : Int32) (v3 : Int32) : Option (Mem) :=
  gd (decide ((P 1 z0 0 0) < 2)) <|
  gd (inb v1 5) <|
  bnd (I 36 (P 1 z0 0 0) 0 v1.toNatClampNeg) fun x1 =>
  f_X1_sendOut_17 P z0 FU I v1 v3 x1 v2 (0 : Int32)
theorem b_X1_sendOut (X : CX) (Q : State → Prop) {I : Mem} {P : PMem} {O : Nat → Int64} {D : Bool} {n : Nat} {z0 : Nat} {v1 : Int32} {v2 : Int32} {v3 : Int32} {r : (Mem)}  (hz0 : z0 < 2) (h : f_X1_sendOut P z0 I v1 v2 v3 = some r) (E : EndR X cX1_sendOut RX1 8 (none) 2 n none r P O D Q) : Here X cX1_sendOut RX1 8 (none) 2 n 0 [some (.inr (.inr (1, z0, 0))), some (.inl v1), some (.inl v2), some (.inl v3), none, none, none, none] [] I P O D n Q := by
  unfold f_X1_sendOut at h
  refine h_aload_n dX1_sendOut_0 rfl ?_
  refine g_X1_44 (by omega) dX1_sendOut_1 ?_
  obtain ⟨g1, h⟩ := gd_some h
  have w1 := of_decide_eq_true g1
  refine g_X1_73 (by omega) dX1_sendOut_4 ?_
  refine h_iload_n dX1_sendOut_7 rfl ?_
  obtain ⟨g2, h⟩ := gd_some h
  refine al_36 (by omega) v1.toNatClampNeg rfl dX1_sendOut_8 g2 ?_
  obtain ⟨x1, e1, h⟩ := bnd_some h
  refine h_nmv e1 ?_
  refine h_istore dX1_sendOut_9 (by decide) rfl ?_
  refine h_iload_n dX1_sendOut_11 rfl ?_
  refine h_istore dX1_sendOut_12 (by decide) rfl ?_
  refine h_iconst (0 : Int32) dX1_sendOut_14 k_iconst_0 ?_
  refine h_istore dX1_sendOut_15 (by decide) rfl ?_
  exact h_mask [true, true, false, true, true, true, true, false] (b_X1_sendOut_17 X Q hz0 FU  h E)
theorem m_X1_sendOut {I : Mem} {P : PMem} {O : Nat → Int64} {D : Bool} {n : Nat} {z0 : Nat} {v1 : Int32} {v2 : Int32} {v3 : Int32} {r : (Mem)} (hz0 : z0 < 2) (h : f_X1_sendOut P z0 I v1 v2 v3 = some r) : MethR yX1_sendOut cX1_sendOut 8 (none) 2 [.inr (.inr (1, z0, 0)), .inl v1, .inl v2, .inl v3] I P O D n none r P O D n := meth_R (Nat.le_refl _) (by decide) rfl (Nat.le_of_ble_eq_true rfl) rfl (fun X Q E => b_X1_sendOut X Q hz0 h E)
def f_X1_load_17  (z0 : Nat) (z1 : Nat) (z2 : Nat) : Nat → Mem → PMem → Int32 → Option (Mem × PMem)
  | 0, _, _, _ => none
  | fu + 1, I, P, v3 =>
    gd (decide ((P 1 z0 0 0) < 2)) <|
    if (I 3 (P 1 z0 0 0) 0 7) ≤ v3 then (some (I, P)) else (gd (decide ((P 1 z0 0 1) < 2)) <|
    gd (inb v3 5) <|
    (f_X1_sendOut P z0 I v3 (I 9 (P 1 z0 0 1) 0 v3.toNatClampNeg) (0 : Int32)).bind fun y1 =>
    if (y1 33 (P 1 z0 0 0) 0 v3.toNatClampNeg) = (1 : Int32) then (bnd (upd4 y1 1 z0 0 2 ((y1 1 z0 0 2) ||| (jshl (1 : Int32) v3))) fun I1' =>
    (f_X1_load_17 z0 z1 z2 fu) I1' P (v3 + (1 : Int32))) else ((f_X1_load_17 z0 z1 z2 fu) y1 P (v3 + (1 : Int32))))
theorem b_X1_load_17 (X : CX) (Q : State → Prop) {O : Nat → Int64} {D : Bool} {n : Nat} {z0 : Nat} {z1 : Nat} {z2 : Nat} {r : (Mem × PMem)}  (hz0 : z0 < 2) (hz1 : z1 < 2) (hz2 : z2 < 2) : ∀ (fu : Nat) {I : Mem} {P : PMem} {v3 : Int32}, f_X1_load_17 z0 z1 z2 fu I P v3 = some r → EndR X cX1_load RX1 4 (none) 3 n none r.1 r.2 O D Q → Here X cX1_load RX1 4 (none) 3 n 17 [some (.inr (.inr (1, z0, 0))), none, none, some (.inl v3)] [] I P O D n Q := by
  intro fu
  induction fu with
  | zero => intro I P v3 h E; cases h
  | succ fu ih =>
  intro I P v3 h E
  have H17 : ∀ (I : Mem) (P : PMem) (v3 : Int32), f_X1_load_17 z0 z1 z2 fu I P v3 = some r → Here X cX1_load RX1 4 (none) 3 n 17 [some (.inr (.inr (1, z0, 0))), none, none, some (.inl v3)] [] I P O D n Q := fun _ _ _ b => ih b E
  simp only [f_X1_load_17] at h
  refine h_iload_n dX1_load_17 rfl ?_
  refine h_aload_n dX1_load_18 rfl ?_
  refine g_X1_44 (by omega) dX1_load_19 ?_
  obtain ⟨g1, h⟩ := gd_some h
  have w1 := of_decide_eq_true g1
  refine g_X1_56 (by omega) dX1_load_22 ?_
  refine h_icmp_ge (tgt := 74) dX1_load_25 (by decide) (fun q1 => ?_) (fun q1 => ?_)
  · rw [if_pos q1] at h
    cases h
    exact h_vret dX1_load_74 rfl E
  · rw [if_neg q1] at h
    refine h_aload_n dX1_load_28 rfl ?_
    refine h_iload_n dX1_load_29 rfl ?_
    refine h_aload_n dX1_load_30 rfl ?_
    refine g_X1_48 (by omega) dX1_load_31 ?_
    obtain ⟨g2, h⟩ := gd_some h
    have w2 := of_decide_eq_true g2
    refine g_X1_61 (by omega) dX1_load_34 ?_
    refine h_iload_n dX1_load_37 rfl ?_
    obtain ⟨g3, h⟩ := gd_some h
    refine al_9 (by omega) v3.toNatClampNeg rfl dX1_load_38 g3 ?_
    refine h_iconst (0 : Int32) dX1_load_39 k_iconst_0 ?_
    obtain ⟨y1, hh1, h⟩ := obd_some h
    refine h_cVv [.inl v3, .inl (I 9 (P 1 z0 0 1) 0 v3.toNatClampNeg), .inl (0 : Int32)] (m_X1_sendOut (by omega) hh1) cw_X1_66 dX1_load_40 rfl (ok_1 (by omega)) (by decide) rfl (Or.inr rfl) rfl ?_
    refine h_aload_n dX1_load_43 rfl ?_
    refine g_X1_44 (by omega) dX1_load_44 ?_
    refine g_X1_70 (by omega) dX1_load_47 ?_
    refine h_iload_n dX1_load_50 rfl ?_
    refine al_33 (by omega) v3.toNatClampNeg rfl dX1_load_51 g3 ?_
    refine h_iconst (1 : Int32) dX1_load_52 k_iconst_1 ?_
    refine h_icmp_ne (tgt := 68) dX1_load_53 (by decide) (fun q2 => ?_) (fun q2 => ?_)
    · rw [if_neg q2] at h
      refine h_iinc (1 : Int32) dX1_load_68 rfl k_iinc_1 (by decide) rfl ?_
      refine h_goto (tgt := 17) dX1_load_71 (by decide) ?_
      exact (H17 _ _ _ h)
    · rw [if_pos q2] at h
      refine h_aload_n dX1_load_56 rfl ?_
      refine h_dup dX1_load_57 (fun _ => rfl) ?_
      refine g_X1_52 (by omega) dX1_load_58 ?_
      refine h_iconst (1 : Int32) dX1_load_61 k_iconst_1 ?_
      refine h_iload_n dX1_load_62 rfl ?_
      refine h_shl dX1_load_63 ?_
      refine h_ior dX1_load_64 ?_
      obtain ⟨I1', e1, h⟩ := bnd_some h
      refine p_X1_52 (by omega) dX1_load_65 ?_
      refine h_nmI e1 ?_
      refine h_iinc (1 : Int32) dX1_load_68 rfl k_iinc_1 (by decide) rfl ?_
      refine h_goto (tgt := 17) dX1_load_71 (by decide) ?_
      exact (H17 _ _ _ h)
def f_X1_load  (z0 : Nat) (z1 : Nat) (z2 : Nat) (I : Mem) (P : PMem) : Option (Mem × PMem) :=
  bnd (updP P 1 z0 0 0 z1) fun P1' =>
  bnd (updP P1' 1 z0 0 1 z2) fun P2' =>
  bnd (upd4 I 1 z0 0 2 (0 : Int32)) fun I1' =>
  f_X1_load_17 z0 z1 z2 FU I1' P2' (0 : Int32)
theorem b_X1_load (X : CX) (Q : State → Prop) {I : Mem} {P : PMem} {O : Nat → Int64} {D : Bool} {n : Nat} {z0 : Nat} {z1 : Nat} {z2 : Nat} {r : (Mem × PMem)}  (hz0 : z0 < 2) (hz1 : z1 < 2) (hz2 : z2 < 2) (h : f_X1_load z0 z1 z2 I P = some r) (E : EndR X cX1_load RX1 4 (none) 3 n none r.1 r.2 O D Q) : Here X cX1_load RX1 4 (none) 3 n 0 [some (.inr (.inr (1, z0, 0))), some (.inr (.inr (3, z1, 0))), some (.inr (.inr (0, z2, 0))), none] [] I P O D n Q := by
  unfold f_X1_load at h
  refine h_aload_n dX1_load_0 rfl ?_
  refine h_aload_n dX1_load_1 rfl ?_
  obtain ⟨P1', e1, h⟩ := bnd_some h
  refine p_X1_44 (by omega) dX1_load_2 ?_
  refine h_nmP e1 ?_
  refine h_aload_n dX1_load_5 rfl ?_
  refine h_aload_n dX1_load_6 rfl ?_
  obtain ⟨P2', e2, h⟩ := bnd_some h
  refine p_X1_48 (by omega) dX1_load_7 ?_
  refine h_nmP e2 ?_
  refine h_aload_n dX1_load_10 rfl ?_
  refine h_iconst (0 : Int32) dX1_load_11 k_iconst_0 ?_
  obtain ⟨I1', e3, h⟩ := bnd_some h
  refine p_X1_52 (by omega) dX1_load_12 ?_
  refine h_nmI e3 ?_
  refine h_iconst (0 : Int32) dX1_load_15 k_iconst_0 ?_
  refine h_istore_n dX1_load_16 (by decide) rfl ?_
  exact h_mask [true, false, false, true] (b_X1_load_17 X Q hz0 hz1 hz2 FU  h E)
theorem m_X1_load {I : Mem} {P : PMem} {O : Nat → Int64} {D : Bool} {n : Nat} {z0 : Nat} {z1 : Nat} {z2 : Nat} {r : (Mem × PMem)} (hz0 : z0 < 2) (hz1 : z1 < 2) (hz2 : z2 < 2) (h : f_X1_load z0 z1 z2 I P = some r) : MethR yX1_load cX1_load 4 (none) 3 [.inr (.inr (1, z0, 0)), .inr (.inr (3, z1, 0)), .inr (.inr (0, z2, 0))] I P O D n none r.1 r.2 O D n := meth_R (Nat.le_refl _) (by decide) rfl (Nat.le_of_ble_eq_true rfl) rfl (fun X Q E => b_X1_load X Q hz0 hz1 hz2 h E)
def f_J7_fill_53178_5  (c0 : Nat) (z0 : Nat) (r0 : Nat) : Nat → Mem → Int32 → Int32 → Int32 → Option (Mem)
  | 0, _, _, _, _ => none
  | fu + 1, I, v1, v2, v3 =>
    if v3 ≤ v2 then (some I) else (gd (inb v2 (cL c0 z0)) <|
    bnd (upd4 I c0 z0 r0 v2.toNatClampNeg v1) fun I1' =>
    (f_J7_fill_53178_5 c0 z0 r0 fu) I1' v1 (v2 + (1 : Int32)) v3)
theorem b_J7_fill_53178_5 (X : CX) (Q : State → Prop) {P : PMem} {O : Nat → Int64} {D : Bool} {n : Nat} {c0 : Nat} {z0 : Nat} {r0 : Nat} {r : (Mem)}  (hc0 : iaOK c0 z0 r0 = true) : ∀ (fu : Nat) {I : Mem} {v1 : Int32} {v2 : Int32} {v3 : Int32}, f_J7_fill_53178_5 c0 z0 r0 fu I v1 v2 v3 = some r → EndR X cJ7_fill_53178 RJ7 4 (none) 2 n none r P O D Q → Here X cJ7_fill_53178 RJ7 4 (none) 2 n 5 [some (.inr (.inr (c0, z0, r0))), some (.inl v1), some (.inl v2), some (.inl v3)] [] I P O D n Q := by
  intro fu
  induction fu with
  | zero => intro I v1 v2 v3 h E; cases h
  | succ fu ih =>
  intro I v1 v2 v3 h E
  have H5 : ∀ (I : Mem) (v1 : Int32) (v2 : Int32) (v3 : Int32), f_J7_fill_53178_5 c0 z0 r0 fu I v1 v2 v3 = some r → Here X cJ7_fill_53178 RJ7 4 (none) 2 n 5 [some (.inr (.inr (c0, z0, r0))), some (.inl v1), some (.inl v2), some (.inl v3)] [] I P O D n Q := fun _ _ _ _ b => ih b E
  simp only [f_J7_fill_53178_5] at h
  refine h_iload_n dJ7_fill_53178_5 rfl ?_
  refine h_iload_n dJ7_fill_53178_6 rfl ?_
  refine h_icmp_ge (tgt := 20) dJ7_fill_53178_7 (by decide) (fun q1 => ?_) (fun q1 => ?_)
  · rw [if_pos q1] at h
    cases h
    exact h_vret dJ7_fill_53178_20 rfl E
  · rw [if_neg q1] at h
    refine h_aload_n dJ7_fill_53178_10 rfl ?_
    refine h_iload_n dJ7_fill_53178_11 rfl ?_
    refine h_iload_n dJ7_fill_53178_12 rfl ?_
    obtain ⟨g1, h⟩ := gd_some h
    obtain ⟨I1', e1, h⟩ := bnd_some h
    refine as_v hc0 v2.toNatClampNeg rfl dJ7_fill_53178_13 g1 ?_
    refine h_nmI e1 ?_
    refine h_iinc (1 : Int32) dJ7_fill_53178_14 rfl k_iinc_1 (by decide) rfl ?_
    refine h_goto (tgt := 5) dJ7_fill_53178_17 (by decide) ?_
    exact (H5 _ _ _ _ h)
def f_J7_fill_53178  (c0 : Nat) (z0 : Nat) (r0 : Nat) (I : Mem) (v1 : Int32) : Option (Mem) :=
  bnd (Int32.ofNat (cL c0 z0)) fun x1 =>
  f_J7_fill_53178_5 c0 z0 r0 FU I v1 (0 : Int32) x1
theorem b_J7_fill_53178 (X : CX) (Q : State → Prop) {I : Mem} {P : PMem} {O : Nat → Int64} {D : Bool} {n : Nat} {c0 : Nat} {z0 : Nat} {r0 : Nat} {v1 : Int32} {r : (Mem)}  (hc0 : iaOK c0 z0 r0 = true) (h : f_J7_fill_53178 c0 z0 r0 I v1 = some r) (E : EndR X cJ7_fill_53178 RJ7 4 (none) 2 n none r P O D Q) : Here X cJ7_fill_53178 RJ7 4 (none) 2 n 0 [some (.inr (.inr (c0, z0, r0))), some (.inl v1), none, none] [] I P O D n Q := by
  unfold f_J7_fill_53178 at h
  refine h_iconst (0 : Int32) dJ7_fill_53178_0 k_iconst_0 ?_
  refine h_istore_n dJ7_fill_53178_1 (by decide) rfl ?_
  refine h_aload_n dJ7_fill_53178_2 rfl ?_
  refine an_v hc0 dJ7_fill_53178_3 ?_
  obtain ⟨x1, e1, h⟩ := bnd_some h
  refine h_nmv e1 ?_
  refine h_istore_n dJ7_fill_53178_4 (by decide) rfl ?_
  exact (b_J7_fill_53178_5 X Q hc0 FU  h E)
theorem m_J7_fill_53178 {I : Mem} {P : PMem} {O : Nat → Int64} {D : Bool} {n : Nat} {c0 : Nat} {z0 : Nat} {r0 : Nat} {v1 : Int32} {r : (Mem)} (hc0 : iaOK c0 z0 r0 = true) (h : f_J7_fill_53178 c0 z0 r0 I v1 = some r) : MethR yJ7_fill_53178 cJ7_fill_53178 4 (none) 2 [.inr (.inr (c0, z0, r0)), .inl v1] I P O D n none r P O D n := meth_R (Nat.le_refl _) (by decide) rfl (Nat.le_of_ble_eq_true rfl) rfl (fun X Q E => b_J7_fill_53178 X Q hc0 h E)
def f_X1_nextWhoComes_57 (k6 : Int32 → Int32 → Int32 → Option (Int32)) (I : Mem) (P : PMem) (z0 : Nat) (v3 : Int32) (v4 : Int32) : Option (Int32) :=
  gd (inb v3 5) <|
  gd (inb v4 7) <|
  bnd (I 14 z0 v3.toNatClampNeg v4.toNatClampNeg) fun x1 =>
  k6 v3 x1 (v3 + (1 : Int32))
theorem b_X1_nextWhoComes_57 (X : CX) (Q : State → Prop) {I : Mem} {P : PMem} {O : Nat → Int64} {D : Bool} {n : Nat} {k6 : Int32 → Int32 → Int32 → Option (Int32)} {z0 : Nat} {v3 : Int32} {v4 : Int32} {r : (Int32)}  (H6 : ∀ (v1 : Int32) (v2 : Int32) (v3 : Int32), k6 v1 v2 v3 = some r → Here X cX1_nextWhoComes RX1 5 (some .int) 2 n 6 [some (.inr (.inr (1, z0, 0))), some (.inl v1), some (.inl v2), some (.inl v3), none] [] I P O D n Q) (hz0 : z0 < 2) (h : f_X1_nextWhoComes_57 k6 I P z0 v3 v4 = some r) (E : EndR X cX1_nextWhoComes RX1 5 (some .int) 2 n (some (.inl r)) I P O D Q) : Here X cX1_nextWhoComes RX1 5 (some .int) 2 n 57 [some (.inr (.inr (1, z0, 0))), none, none, some (.inl v3), some (.inl v4)] [] I P O D n Q := by
  unfold f_X1_nextWhoComes_57 at h
  refine h_iload_n dX1_nextWhoComes_57 rfl ?_
  refine h_istore_n dX1_nextWhoComes_58 (by decide) rfl ?_
  refine h_aload_n dX1_nextWhoComes_59 rfl ?_
  refine g_X1_16 (by omega) dX1_nextWhoComes_60 ?_
  refine h_iload_n dX1_nextWhoComes_63 rfl ?_
  obtain ⟨g1, h⟩ := gd_some h
  refine ag_13 (by omega) v3.toNatClampNeg rfl dX1_nextWhoComes_64 g1 ?_
  have w1 := inb_lt g1
  refine h_iload dX1_nextWhoComes_65 rfl ?_
  obtain ⟨g2, h⟩ := gd_some h
  refine al_14 (by omega) (by omega) v4.toNatClampNeg rfl dX1_nextWhoComes_67 g2 ?_
  obtain ⟨x1, e1, h⟩ := bnd_some h
  refine h_nmv e1 ?_
  refine h_istore_n dX1_nextWhoComes_68 (by decide) rfl ?_
  refine h_iinc (1 : Int32) dX1_nextWhoComes_69 rfl k_iinc_1 (by decide) rfl ?_
  refine h_goto (tgt := 6) dX1_nextWhoComes_72 (by decide) ?_
  exact h_mask [true, true, true, true, false] (H6 _ _ _ h)
def f_X1_nextWhoComes_6  (I : Mem) (P : PMem) (z0 : Nat) : Nat → Int32 → Int32 → Int32 → Option (Int32)
  | 0, _, _, _ => none
  | fu + 1, v1, v2, v3 =>
    gd (decide ((P 1 z0 0 0) < 2)) <|
    if (I 3 (P 1 z0 0 0) 0 7) ≤ v3 then (some v1) else (gd (inb v3 5) <|
    bnd (I 25 z0 0 v3.toNatClampNeg) fun x1 =>
    if (I 36 (P 1 z0 0 0) 0 v3.toNatClampNeg) ≤ x1 then ((f_X1_nextWhoComes_6 I P z0 fu) v1 v2 (v3 + (1 : Int32))) else (if v1 = (-1 : Int32) then (f_X1_nextWhoComes_57 (f_X1_nextWhoComes_6 I P z0 fu) I P z0 v3 x1) else (gd (inb x1 7) <|
    if v2 ≤ (I 14 z0 v3.toNatClampNeg x1.toNatClampNeg) then ((f_X1_nextWhoComes_6 I P z0 fu) v1 v2 (v3 + (1 : Int32))) else (f_X1_nextWhoComes_57 (f_X1_nextWhoComes_6 I P z0 fu) I P z0 v3 x1))))
theorem b_X1_nextWhoComes_6 (X : CX) (Q : State → Prop) {I : Mem} {P : PMem} {O : Nat → Int64} {D : Bool} {n : Nat} {z0 : Nat} {r : (Int32)}  (hz0 : z0 < 2) : ∀ (fu : Nat) {v1 : Int32} {v2 : Int32} {v3 : Int32}, f_X1_nextWhoComes_6 I P z0 fu v1 v2 v3 = some r → EndR X cX1_nextWhoComes RX1 5 (some .int) 2 n (some (.inl r)) I P O D Q → Here X cX1_nextWhoComes RX1 5 (some .int) 2 n 6 [some (.inr (.inr (1, z0, 0))), some (.inl v1), some (.inl v2), some (.inl v3), none] [] I P O D n Q := by
  intro fu
  induction fu with
  | zero => intro v1 v2 v3 h E; cases h
  | succ fu ih =>
  intro v1 v2 v3 h E
  have H6 : ∀ (v1 : Int32) (v2 : Int32) (v3 : Int32), f_X1_nextWhoComes_6 I P z0 fu v1 v2 v3 = some r → Here X cX1_nextWhoComes RX1 5 (some .int) 2 n 6 [some (.inr (.inr (1, z0, 0))), some (.inl v1), some (.inl v2), some (.inl v3), none] [] I P O D n Q := fun _ _ _ b => ih b E
  simp only [f_X1_nextWhoComes_6] at h
  refine h_iload_n dX1_nextWhoComes_6 rfl ?_
  refine h_aload_n dX1_nextWhoComes_7 rfl ?_
  refine g_X1_44 (by omega) dX1_nextWhoComes_8 ?_
  obtain ⟨g1, h⟩ := gd_some h
  have w1 := of_decide_eq_true g1
  refine g_X1_56 (by omega) dX1_nextWhoComes_11 ?_
  refine h_icmp_ge (tgt := 75) dX1_nextWhoComes_14 (by decide) (fun q1 => ?_) (fun q1 => ?_)
  · rw [if_pos q1] at h
    refine h_iload_n dX1_nextWhoComes_75 rfl ?_
    cases h
    exact h_iret dX1_nextWhoComes_76 rfl E
  · rw [if_neg q1] at h
    refine h_aload_n dX1_nextWhoComes_17 rfl ?_
    refine g_X1_38 (by omega) dX1_nextWhoComes_18 ?_
    refine h_iload_n dX1_nextWhoComes_21 rfl ?_
    obtain ⟨g2, h⟩ := gd_some h
    refine al_25 (by omega) v3.toNatClampNeg rfl dX1_nextWhoComes_22 g2 ?_
    obtain ⟨x1, e1, h⟩ := bnd_some h
    refine h_nmv e1 ?_
    refine h_istore dX1_nextWhoComes_23 (by decide) rfl ?_
    refine h_iload dX1_nextWhoComes_25 rfl ?_
    refine h_aload_n dX1_nextWhoComes_27 rfl ?_
    refine g_X1_44 (by omega) dX1_nextWhoComes_28 ?_
    refine g_X1_73 (by omega) dX1_nextWhoComes_31 ?_
    refine h_iload_n dX1_nextWhoComes_34 rfl ?_
    refine al_36 (by omega) v3.toNatClampNeg rfl dX1_nextWhoComes_35 g2 ?_
    refine h_icmp_ge (tgt := 69) dX1_nextWhoComes_36 (by decide) (fun q2 => ?_) (fun q2 => ?_)
    · rw [if_pos q2] at h
      refine h_iinc (1 : Int32) dX1_nextWhoComes_69 rfl k_iinc_1 (by decide) rfl ?_
      refine h_goto (tgt := 6) dX1_nextWhoComes_72 (by decide) ?_
      exact h_mask [true, true, true, true, false] (H6 _ _ _ h)
    · rw [if_neg q2] at h
      refine h_iload_n dX1_nextWhoComes_39 rfl ?_
      refine h_iconst (-1 : Int32) dX1_nextWhoComes_40 k_iconst_m1 ?_
      refine h_icmp_eq (tgt := 57) dX1_nextWhoComes_41 (by decide) (fun q3 => ?_) (fun q3 => ?_)
      · rw [if_pos q3] at h
        exact h_mask [true, false, false, true, true] (b_X1_nextWhoComes_57 X Q H6 hz0  h E)
      · rw [if_neg q3] at h
        refine h_aload_n dX1_nextWhoComes_44 rfl ?_
        refine g_X1_16 (by omega) dX1_nextWhoComes_45 ?_
        refine h_iload_n dX1_nextWhoComes_48 rfl ?_
        refine ag_13 (by omega) v3.toNatClampNeg rfl dX1_nextWhoComes_49 g2 ?_
        have w2 := inb_lt g2
        refine h_iload dX1_nextWhoComes_50 rfl ?_
        obtain ⟨g3, h⟩ := gd_some h
        refine al_14 (by omega) (by omega) x1.toNatClampNeg rfl dX1_nextWhoComes_52 g3 ?_
        refine h_iload_n dX1_nextWhoComes_53 rfl ?_
        refine h_icmp_ge (tgt := 69) dX1_nextWhoComes_54 (by decide) (fun q4 => ?_) (fun q4 => ?_)
        · rw [if_pos q4] at h
          refine h_iinc (1 : Int32) dX1_nextWhoComes_69 rfl k_iinc_1 (by decide) rfl ?_
          refine h_goto (tgt := 6) dX1_nextWhoComes_72 (by decide) ?_
          exact h_mask [true, true, true, true, false] (H6 _ _ _ h)
        · rw [if_neg q4] at h
          exact h_mask [true, false, false, true, true] (b_X1_nextWhoComes_57 X Q H6 hz0  h E)
def f_X1_nextWhoComes  (I : Mem) (P : PMem) (z0 : Nat)  : Option (Int32) :=
  f_X1_nextWhoComes_6 I P z0 FU (-1 : Int32) (0 : Int32) (0 : Int32)
theorem b_X1_nextWhoComes (X : CX) (Q : State → Prop) {I : Mem} {P : PMem} {O : Nat → Int64} {D : Bool} {n : Nat} {z0 : Nat} {r : (Int32)}  (hz0 : z0 < 2) (h : f_X1_nextWhoComes I P z0 = some r) (E : EndR X cX1_nextWhoComes RX1 5 (some .int) 2 n (some (.inl r)) I P O D Q) : Here X cX1_nextWhoComes RX1 5 (some .int) 2 n 0 [some (.inr (.inr (1, z0, 0))), none, none, none, none] [] I P O D n Q := by
  unfold f_X1_nextWhoComes at h
  refine h_iconst (-1 : Int32) dX1_nextWhoComes_0 k_iconst_m1 ?_
  refine h_istore_n dX1_nextWhoComes_1 (by decide) rfl ?_
  refine h_iconst (0 : Int32) dX1_nextWhoComes_2 k_iconst_0 ?_
  refine h_istore_n dX1_nextWhoComes_3 (by decide) rfl ?_
  refine h_iconst (0 : Int32) dX1_nextWhoComes_4 k_iconst_0 ?_
  refine h_istore_n dX1_nextWhoComes_5 (by decide) rfl ?_
  exact (b_X1_nextWhoComes_6 X Q hz0 FU  h E)
theorem m_X1_nextWhoComes {I : Mem} {P : PMem} {O : Nat → Int64} {D : Bool} {n : Nat} {z0 : Nat} {r : (Int32)} (hz0 : z0 < 2) (h : f_X1_nextWhoComes I P z0 = some r) : MethR yX1_nextWhoComes cX1_nextWhoComes 5 (some .int) 2 [.inr (.inr (1, z0, 0))] I P O D n (some (.inl r)) I P O D n := meth_R (Nat.le_refl _) (by decide) rfl (Nat.le_of_ble_eq_true rfl) rfl (fun X Q E => b_X1_nextWhoComes X Q hz0 h E)
def f_X1_isFeast_11  (I : Mem) (P : PMem) (z0 : Nat) : Nat → Int32 → Int32 → Nat → Int32 → Option (Int32)
  | 0, _, _, _, _ => none
  | fu + 1, v1, v2, z3, v4 =>
    if (I 6 z3 0 3) ≤ v4 then (some (0 : Int32)) else (gd (inb v4 (rowsLen z3)) <|
    if (I 44 z3 0 v4.toNatClampNeg) = v1 then (if v2 < (I 45 z3 0 v4.toNatClampNeg) then ((f_X1_isFeast_11 I P z0 fu) v1 v2 z3 (v4 + (1 : Int32))) else (if (I 46 z3 0 v4.toNatClampNeg) < v2 then ((f_X1_isFeast_11 I P z0 fu) v1 v2 z3 (v4 + (1 : Int32))) else (some (1 : Int32)))) else ((f_X1_isFeast_11 I P z0 fu) v1 v2 z3 (v4 + (1 : Int32))))
theorem b_X1_isFeast_11 (X : CX) (Q : State → Prop) {I : Mem} {P : PMem} {O : Nat → Int64} {D : Bool} {n : Nat} {z0 : Nat} {r : (Int32)}  (hz0 : z0 < 2) : ∀ (fu : Nat) {v1 : Int32} {v2 : Int32} {z3 : Nat} {v4 : Int32} (hz3 : z3 < 10), f_X1_isFeast_11 I P z0 fu v1 v2 z3 v4 = some r → EndR X cX1_isFeast RX1 5 (some .boolean) 2 n (some (.inl r)) I P O D Q → Here X cX1_isFeast RX1 5 (some .boolean) 2 n 11 [none, some (.inl v1), some (.inl v2), some (.inr (.inr (6, z3, 0))), some (.inl v4)] [] I P O D n Q := by
  intro fu
  induction fu with
  | zero => intro v1 v2 z3 v4 hz3 h E; cases h
  | succ fu ih =>
  intro v1 v2 z3 v4 hz3 h E
  have H11 : ∀ (v1 : Int32) (v2 : Int32) (z3 : Nat) (v4 : Int32), z3 < 10 → f_X1_isFeast_11 I P z0 fu v1 v2 z3 v4 = some r → Here X cX1_isFeast RX1 5 (some .boolean) 2 n 11 [none, some (.inl v1), some (.inl v2), some (.inr (.inr (6, z3, 0))), some (.inl v4)] [] I P O D n Q := fun _ _ _ _ a0 b => ih a0 b E
  simp only [f_X1_isFeast_11] at h
  refine h_iload dX1_isFeast_11 rfl ?_
  refine h_aload_n dX1_isFeast_13 rfl ?_
  refine g_X1_144 (by omega) dX1_isFeast_14 ?_
  refine h_icmp_ge (tgt := 61) dX1_isFeast_17 (by decide) (fun q1 => ?_) (fun q1 => ?_)
  · rw [if_pos q1] at h
    refine h_iconst (0 : Int32) dX1_isFeast_61 k_iconst_0 ?_
    cases h
    exact h_zret dX1_isFeast_62 rfl rfl E
  · rw [if_neg q1] at h
    refine h_aload_n dX1_isFeast_20 rfl ?_
    refine g_X1_149 (by omega) dX1_isFeast_21 ?_
    refine h_iload dX1_isFeast_24 rfl ?_
    obtain ⟨g1, h⟩ := gd_some h
    refine al_44 (by omega) v4.toNatClampNeg rfl dX1_isFeast_26 g1 ?_
    refine h_iload_n dX1_isFeast_27 rfl ?_
    refine h_icmp_ne (tgt := 55) dX1_isFeast_28 (by decide) (fun q2 => ?_) (fun q2 => ?_)
    · rw [if_neg q2] at h
      refine h_iinc (1 : Int32) dX1_isFeast_55 rfl k_iinc_1 (by decide) rfl ?_
      refine h_goto (tgt := 11) dX1_isFeast_58 (by decide) ?_
      exact (H11 _ _ _ _ (by omega) h)
    · rw [if_pos q2] at h
      refine h_aload_n dX1_isFeast_31 rfl ?_
      refine g_X1_152 (by omega) dX1_isFeast_32 ?_
      refine h_iload dX1_isFeast_35 rfl ?_
      refine al_45 (by omega) v4.toNatClampNeg rfl dX1_isFeast_37 g1 ?_
      refine h_iload_n dX1_isFeast_38 rfl ?_
      refine h_icmp_gt (tgt := 55) dX1_isFeast_39 (by decide) (fun q3 => ?_) (fun q3 => ?_)
      · rw [if_pos q3] at h
        refine h_iinc (1 : Int32) dX1_isFeast_55 rfl k_iinc_1 (by decide) rfl ?_
        refine h_goto (tgt := 11) dX1_isFeast_58 (by decide) ?_
        exact (H11 _ _ _ _ (by omega) h)
      · rw [if_neg q3] at h
        refine h_iload_n dX1_isFeast_42 rfl ?_
        refine h_aload_n dX1_isFeast_43 rfl ?_
        refine g_X1_155 (by omega) dX1_isFeast_44 ?_
        refine h_iload dX1_isFeast_47 rfl ?_
        refine al_46 (by omega) v4.toNatClampNeg rfl dX1_isFeast_49 g1 ?_
        refine h_icmp_gt (tgt := 55) dX1_isFeast_50 (by decide) (fun q4 => ?_) (fun q4 => ?_)
        · rw [if_pos q4] at h
          refine h_iinc (1 : Int32) dX1_isFeast_55 rfl k_iinc_1 (by decide) rfl ?_
          refine h_goto (tgt := 11) dX1_isFeast_58 (by decide) ?_
          exact (H11 _ _ _ _ (by omega) h)
        · rw [if_neg q4] at h
          refine h_iconst (1 : Int32) dX1_isFeast_53 k_iconst_1 ?_
          cases h
          exact h_zret dX1_isFeast_54 rfl rfl E
def f_X1_isFeast  (I : Mem) (P : PMem) (z0 : Nat) (v1 : Int32) (v2 : Int32) : Option (Int32) :=
  gd (decide ((P 1 z0 0 1) < 2)) <|
  f_X1_isFeast_11 I P z0 FU v1 v2 (5 * (P 1 z0 0 1) + 1) (0 : Int32)
theorem b_X1_isFeast (X : CX) (Q : State → Prop) {I : Mem} {P : PMem} {O : Nat → Int64} {D : Bool} {n : Nat} {z0 : Nat} {v1 : Int32} {v2 : Int32} {r : (Int32)}  (hz0 : z0 < 2) (h : f_X1_isFeast I P z0 v1 v2 = some r) (E : EndR X cX1_isFeast RX1 5 (some .boolean) 2 n (some (.inl r)) I P O D Q) : Here X cX1_isFeast RX1 5 (some .boolean) 2 n 0 [some (.inr (.inr (1, z0, 0))), some (.inl v1), some (.inl v2), none, none] [] I P O D n Q := by
  unfold f_X1_isFeast at h
  refine h_aload_n dX1_isFeast_0 rfl ?_
  refine g_X1_48 (by omega) dX1_isFeast_1 ?_
  obtain ⟨g1, h⟩ := gd_some h
  have w1 := of_decide_eq_true g1
  refine g_X1_140 (by omega) dX1_isFeast_4 ?_
  refine h_astore_n dX1_isFeast_7 (by decide) rfl ?_
  refine h_iconst (0 : Int32) dX1_isFeast_8 k_iconst_0 ?_
  refine h_istore dX1_isFeast_9 (by decide) rfl ?_
  exact h_mask [false, true, true, true, true] (b_X1_isFeast_11 X Q hz0 FU (by omega) h E)
theorem m_X1_isFeast {I : Mem} {P : PMem} {O : Nat → Int64} {D : Bool} {n : Nat} {z0 : Nat} {v1 : Int32} {v2 : Int32} {r : (Int32)} (hz0 : z0 < 2) (h : f_X1_isFeast I P z0 v1 v2 = some r) : MethR yX1_isFeast cX1_isFeast 5 (some .boolean) 2 [.inr (.inr (1, z0, 0)), .inl v1, .inl v2] I P O D n (some (.inl r)) I P O D n := meth_R (Nat.le_refl _) (by decide) rfl (Nat.le_of_ble_eq_true rfl) rfl (fun X Q E => b_X1_isFeast X Q hz0 h E)
def f_X1_howManySaidBefore_5  (I : Mem) (P : PMem) (z0 : Nat) : Nat → Int32 → Int32 → Int32 → Int32 → Option (Int32)
  | 0, _, _, _, _ => none
  | fu + 1, v1, v2, v3, v4 =>
    gd (decide ((P 1 z0 0 0) < 2)) <|
    if (I 3 (P 1 z0 0 0) 0 7) ≤ v4 then (some v3) else (gd (inb v1 6) <|
    gd (inb v4 5) <|
    if (I 16 z0 v1.toNatClampNeg v4.toNatClampNeg) = (-1 : Int32) then ((f_X1_howManySaidBefore_5 I P z0 fu) v1 v2 v3 (v4 + (1 : Int32))) else (if v2 ≤ (I 16 z0 v1.toNatClampNeg v4.toNatClampNeg) then ((f_X1_howManySaidBefore_5 I P z0 fu) v1 v2 v3 (v4 + (1 : Int32))) else ((f_X1_howManySaidBefore_5 I P z0 fu) v1 v2 (v3 + (1 : Int32)) (v4 + (1 : Int32)))))
theorem b_X1_howManySaidBefore_5 (X : CX) (Q : State → Prop) {I : Mem} {P : PMem} {O : Nat → Int64} {D : Bool} {n : Nat} {z0 : Nat} {r : (Int32)}  (hz0 : z0 < 2) : ∀ (fu : Nat) {v1 : Int32} {v2 : Int32} {v3 : Int32} {v4 : Int32}, f_X1_howManySaidBefore_5 I P z0 fu v1 v2 v3 v4 = some r → EndR X cX1_howManySaidBefore RX1 5 (some .int) 2 n (some (.inl r)) I P O D Q → Here X cX1_howManySaidBefore RX1 5 (some .int) 2 n 5 [some (.inr (.inr (1, z0, 0))), some (.inl v1), some (.inl v2), some (.inl v3), some (.inl v4)] [] I P O D n Q := by
  intro fu
  induction fu with
  | zero => intro v1 v2 v3 v4 h E; cases h
  | succ fu ih =>
  intro v1 v2 v3 v4 h E
  have H5 : ∀ (v1 : Int32) (v2 : Int32) (v3 : Int32) (v4 : Int32), f_X1_howManySaidBefore_5 I P z0 fu v1 v2 v3 v4 = some r → Here X cX1_howManySaidBefore RX1 5 (some .int) 2 n 5 [some (.inr (.inr (1, z0, 0))), some (.inl v1), some (.inl v2), some (.inl v3), some (.inl v4)] [] I P O D n Q := fun _ _ _ _ b => ih b E
  simp only [f_X1_howManySaidBefore_5] at h
  refine h_iload dX1_howManySaidBefore_5 rfl ?_
  refine h_aload_n dX1_howManySaidBefore_7 rfl ?_
  refine g_X1_44 (by omega) dX1_howManySaidBefore_8 ?_
  obtain ⟨g1, h⟩ := gd_some h
  have w1 := of_decide_eq_true g1
  refine g_X1_56 (by omega) dX1_howManySaidBefore_11 ?_
  refine h_icmp_ge (tgt := 52) dX1_howManySaidBefore_14 (by decide) (fun q1 => ?_) (fun q1 => ?_)
  · rw [if_pos q1] at h
    refine h_iload_n dX1_howManySaidBefore_52 rfl ?_
    cases h
    exact h_iret dX1_howManySaidBefore_53 rfl E
  · rw [if_neg q1] at h
    refine h_aload_n dX1_howManySaidBefore_17 rfl ?_
    refine g_X1_19 (by omega) dX1_howManySaidBefore_18 ?_
    refine h_iload_n dX1_howManySaidBefore_21 rfl ?_
    obtain ⟨g2, h⟩ := gd_some h
    refine ag_15 (by omega) v1.toNatClampNeg rfl dX1_howManySaidBefore_22 g2 ?_
    have w2 := inb_lt g2
    refine h_iload dX1_howManySaidBefore_23 rfl ?_
    obtain ⟨g3, h⟩ := gd_some h
    refine al_16 (by omega) (by omega) v4.toNatClampNeg rfl dX1_howManySaidBefore_25 g3 ?_
    refine h_iconst (-1 : Int32) dX1_howManySaidBefore_26 k_iconst_m1 ?_
    refine h_icmp_eq (tgt := 46) dX1_howManySaidBefore_27 (by decide) (fun q2 => ?_) (fun q2 => ?_)
    · rw [if_pos q2] at h
      refine h_iinc (1 : Int32) dX1_howManySaidBefore_46 rfl k_iinc_1 (by decide) rfl ?_
      refine h_goto (tgt := 5) dX1_howManySaidBefore_49 (by decide) ?_
      exact (H5 _ _ _ _ h)
    · rw [if_neg q2] at h
      refine h_aload_n dX1_howManySaidBefore_30 rfl ?_
      refine g_X1_19 (by omega) dX1_howManySaidBefore_31 ?_
      refine h_iload_n dX1_howManySaidBefore_34 rfl ?_
      refine ag_15 (by omega) v1.toNatClampNeg rfl dX1_howManySaidBefore_35 g2 ?_
      refine h_iload dX1_howManySaidBefore_36 rfl ?_
      refine al_16 (by omega) (by omega) v4.toNatClampNeg rfl dX1_howManySaidBefore_38 g3 ?_
      refine h_iload_n dX1_howManySaidBefore_39 rfl ?_
      refine h_icmp_ge (tgt := 46) dX1_howManySaidBefore_40 (by decide) (fun q3 => ?_) (fun q3 => ?_)
      · rw [if_pos q3] at h
        refine h_iinc (1 : Int32) dX1_howManySaidBefore_46 rfl k_iinc_1 (by decide) rfl ?_
        refine h_goto (tgt := 5) dX1_howManySaidBefore_49 (by decide) ?_
        exact (H5 _ _ _ _ h)
      · rw [if_neg q3] at h
        refine h_iinc (1 : Int32) dX1_howManySaidBefore_43 rfl k_iinc_1 (by decide) rfl ?_
        refine h_iinc (1 : Int32) dX1_howManySaidBefore_46 rfl k_iinc_1 (by decide) rfl ?_
        refine h_goto (tgt := 5) dX1_howManySaidBefore_49 (by decide) ?_
        exact (H5 _ _ _ _ h)
def f_X1_howManySaidBefore  (I : Mem) (P : PMem) (z0 : Nat) (v1 : Int32) (v2 : Int32) : Option (Int32) :=
  f_X1_howManySaidBefore_5 I P z0 FU v1 v2 (0 : Int32) (0 : Int32)
theorem b_X1_howManySaidBefore (X : CX) (Q : State → Prop) {I : Mem} {P : PMem} {O : Nat → Int64} {D : Bool} {n : Nat} {z0 : Nat} {v1 : Int32} {v2 : Int32} {r : (Int32)}  (hz0 : z0 < 2) (h : f_X1_howManySaidBefore I P z0 v1 v2 = some r) (E : EndR X cX1_howManySaidBefore RX1 5 (some .int) 2 n (some (.inl r)) I P O D Q) : Here X cX1_howManySaidBefore RX1 5 (some .int) 2 n 0 [some (.inr (.inr (1, z0, 0))), some (.inl v1), some (.inl v2), none, none] [] I P O D n Q := by
  unfold f_X1_howManySaidBefore at h
  refine h_iconst (0 : Int32) dX1_howManySaidBefore_0 k_iconst_0 ?_
  refine h_istore_n dX1_howManySaidBefore_1 (by decide) rfl ?_
  refine h_iconst (0 : Int32) dX1_howManySaidBefore_2 k_iconst_0 ?_
  refine h_istore dX1_howManySaidBefore_3 (by decide) rfl ?_
  exact (b_X1_howManySaidBefore_5 X Q hz0 FU  h E)
theorem m_X1_howManySaidBefore {I : Mem} {P : PMem} {O : Nat → Int64} {D : Bool} {n : Nat} {z0 : Nat} {v1 : Int32} {v2 : Int32} {r : (Int32)} (hz0 : z0 < 2) (h : f_X1_howManySaidBefore I P z0 v1 v2 = some r) : MethR yX1_howManySaidBefore cX1_howManySaidBefore 5 (some .int) 2 [.inr (.inr (1, z0, 0)), .inl v1, .inl v2] I P O D n (some (.inl r)) I P O D n := meth_R (Nat.le_refl _) (by decide) rfl (Nat.le_of_ble_eq_true rfl) rfl (fun X Q E => b_X1_howManySaidBefore X Q hz0 h E)
def f_X4_join  (I : Mem) (v0 : Int32) (v1 : Int32) (v2 : Int32) : Option (Int32) :=
  (if v0 = (10005 : Int32) then (if v1 = 0 then (if v2 = 0 then (some (0 : Int32)) else (some (1 : Int32))) else (some (1 : Int32))) else (if v0 = (10006 : Int32) then (if v1 = 0 then (some (0 : Int32)) else (if v2 = 0 then (some (0 : Int32)) else (some (1 : Int32)))) else (if v0 = (10007 : Int32) then (if v2 = 0 then (some (0 : Int32)) else (gd (v2 != 0) <|
  some (v1 / v2))) else (if v0 = (10008 : Int32) then (if v2 ≤ v1 then (some (0 : Int32)) else (some (1 : Int32))) else (if v0 = (10009 : Int32) then (if v1 = v2 then (some (1 : Int32)) else (some (0 : Int32))) else (if v0 = (10010 : Int32) then (some (v1 + v2)) else (if v0 = (10011 : Int32) then (some (v1 - v2)) else (if v0 = (10012 : Int32) then (some (v1 * v2)) else (if v2 = 0 then (some (0 : Int32)) else (gd (v2 != 0) <|
  some (v1 / v2)))))))))))
theorem b_X4_join (X : CX) (Q : State → Prop) {I : Mem} {P : PMem} {O : Nat → Int64} {D : Bool} {n : Nat} {v0 : Int32} {v1 : Int32} {v2 : Int32} {r : (Int32)}  (h : f_X4_join I v0 v1 v2 = some r) (E : EndR X cX4_join RX4 3 (some .int) 2 n (some (.inl r)) I P O D Q) : Here X cX4_join RX4 3 (some .int) 2 n 0 [some (.inl v0), some (.inl v1), some (.inl v2)] [] I P O D n Q := by
  unfold f_X4_join at h
  refine h_iload_n dX4_join_0 rfl ?_
  by_cases q1 : v0 = (10005 : Int32)
  · rw [if_pos q1] at h
    refine h_tswIn (tgt := 48) 0 dX4_join_1 (by rw [q1]; decide) (by decide) rfl (by decide) ?_
    refine h_iload_n dX4_join_48 rfl ?_
    refine h_if_ne (tgt := 56) dX4_join_49 (by decide) (fun q2 => ?_) (fun q2 => ?_)
    · rw [if_neg q2] at h
      refine h_iconst (1 : Int32) dX4_join_56 k_iconst_1 ?_
      refine h_goto (tgt := 61) dX4_join_57 (by decide) ?_
      cases h
      exact h_iret dX4_join_61 rfl E
    · rw [if_pos q2] at h
      refine h_iload_n dX4_join_52 rfl ?_
      refine h_if_eq (tgt := 60) dX4_join_53 (by decide) (fun q3 => ?_) (fun q3 => ?_)
      · rw [if_pos q3] at h
        refine h_iconst (0 : Int32) dX4_join_60 k_iconst_0 ?_
        cases h
        exact h_iret dX4_join_61 rfl E
      · rw [if_neg q3] at h
        refine h_iconst (1 : Int32) dX4_join_56 k_iconst_1 ?_
        refine h_goto (tgt := 61) dX4_join_57 (by decide) ?_
        cases h
        exact h_iret dX4_join_61 rfl E
  · rw [if_neg q1] at h
    by_cases q4 : v0 = (10006 : Int32)
    · rw [if_pos q4] at h
      refine h_tswIn (tgt := 62) 1 dX4_join_1 (by rw [q4]; decide) (by decide) rfl (by decide) ?_
      refine h_iload_n dX4_join_62 rfl ?_
      refine h_if_eq (tgt := 74) dX4_join_63 (by decide) (fun q5 => ?_) (fun q5 => ?_)
      · rw [if_pos q5] at h
        refine h_iconst (0 : Int32) dX4_join_74 k_iconst_0 ?_
        cases h
        exact h_iret dX4_join_75 rfl E
      · rw [if_neg q5] at h
        refine h_iload_n dX4_join_66 rfl ?_
        refine h_if_eq (tgt := 74) dX4_join_67 (by decide) (fun q6 => ?_) (fun q6 => ?_)
        · rw [if_pos q6] at h
          refine h_iconst (0 : Int32) dX4_join_74 k_iconst_0 ?_
          cases h
          exact h_iret dX4_join_75 rfl E
        · rw [if_neg q6] at h
          refine h_iconst (1 : Int32) dX4_join_70 k_iconst_1 ?_
          refine h_goto (tgt := 75) dX4_join_71 (by decide) ?_
          cases h
          exact h_iret dX4_join_75 rfl E
    · rw [if_neg q4] at h
      by_cases q7 : v0 = (10007 : Int32)
      · rw [if_pos q7] at h
        refine h_tswIn (tgt := 110) 2 dX4_join_1 (by rw [q7]; decide) (by decide) rfl (by decide) ?_
        refine h_iload_n dX4_join_110 rfl ?_
        refine h_if_ne (tgt := 118) dX4_join_111 (by decide) (fun q8 => ?_) (fun q8 => ?_)
        · rw [if_neg q8] at h
          refine h_iload_n dX4_join_118 rfl ?_
          refine h_iload_n dX4_join_119 rfl ?_
          obtain ⟨g1, h⟩ := gd_some h
          refine h_div dX4_join_120 g1 ?_
          cases h
          exact h_iret dX4_join_121 rfl E
        · rw [if_pos q8] at h
          refine h_iconst (0 : Int32) dX4_join_114 k_iconst_0 ?_
          refine h_goto (tgt := 121) dX4_join_115 (by decide) ?_
          cases h
          exact h_iret dX4_join_121 rfl E
      · rw [if_neg q7] at h
        by_cases q9 : v0 = (10008 : Int32)
        · rw [if_pos q9] at h
          refine h_tswIn (tgt := 76) 3 dX4_join_1 (by rw [q9]; decide) (by decide) rfl (by decide) ?_
          refine h_iload_n dX4_join_76 rfl ?_
          refine h_iload_n dX4_join_77 rfl ?_
          refine h_icmp_ge (tgt := 85) dX4_join_78 (by decide) (fun q10 => ?_) (fun q10 => ?_)
          · rw [if_pos q10] at h
            refine h_iconst (0 : Int32) dX4_join_85 k_iconst_0 ?_
            cases h
            exact h_iret dX4_join_86 rfl E
          · rw [if_neg q10] at h
            refine h_iconst (1 : Int32) dX4_join_81 k_iconst_1 ?_
            refine h_goto (tgt := 86) dX4_join_82 (by decide) ?_
            cases h
            exact h_iret dX4_join_86 rfl E
        · rw [if_neg q9] at h
          by_cases q11 : v0 = (10009 : Int32)
          · rw [if_pos q11] at h
            refine h_tswIn (tgt := 87) 4 dX4_join_1 (by rw [q11]; decide) (by decide) rfl (by decide) ?_
            refine h_iload_n dX4_join_87 rfl ?_
            refine h_iload_n dX4_join_88 rfl ?_
            refine h_icmp_ne (tgt := 96) dX4_join_89 (by decide) (fun q12 => ?_) (fun q12 => ?_)
            · rw [if_neg q12] at h
              refine h_iconst (0 : Int32) dX4_join_96 k_iconst_0 ?_
              cases h
              exact h_iret dX4_join_97 rfl E
            · rw [if_pos q12] at h
              refine h_iconst (1 : Int32) dX4_join_92 k_iconst_1 ?_
              refine h_goto (tgt := 97) dX4_join_93 (by decide) ?_
              cases h
              exact h_iret dX4_join_97 rfl E
          · rw [if_neg q11] at h
            by_cases q13 : v0 = (10010 : Int32)
            · rw [if_pos q13] at h
              refine h_tswIn (tgt := 98) 5 dX4_join_1 (by rw [q13]; decide) (by decide) rfl (by decide) ?_
              refine h_iload_n dX4_join_98 rfl ?_
              refine h_iload_n dX4_join_99 rfl ?_
              refine h_iadd dX4_join_100 ?_
              cases h
              exact h_iret dX4_join_101 rfl E
            · rw [if_neg q13] at h
              by_cases q14 : v0 = (10011 : Int32)
              · rw [if_pos q14] at h
                refine h_tswIn (tgt := 102) 6 dX4_join_1 (by rw [q14]; decide) (by decide) rfl (by decide) ?_
                refine h_iload_n dX4_join_102 rfl ?_
                refine h_iload_n dX4_join_103 rfl ?_
                refine h_isub dX4_join_104 ?_
                cases h
                exact h_iret dX4_join_105 rfl E
              · rw [if_neg q14] at h
                by_cases q15 : v0 = (10012 : Int32)
                · rw [if_pos q15] at h
                  refine h_tswIn (tgt := 106) 7 dX4_join_1 (by rw [q15]; decide) (by decide) rfl (by decide) ?_
                  refine h_iload_n dX4_join_106 rfl ?_
                  refine h_iload_n dX4_join_107 rfl ?_
                  refine h_imul dX4_join_108 ?_
                  cases h
                  exact h_iret dX4_join_109 rfl E
                · rw [if_neg q15] at h
                  refine h_tswOut (tgt := 110) dX4_join_1 ?_ (by decide) ?_
                  · have n0 : v0.toInt ≠ 10005 := fun e => q1 (Int32.toInt_inj.mp (e.trans (by decide)))
                    have n1 : v0.toInt ≠ 10006 := fun e => q4 (Int32.toInt_inj.mp (e.trans (by decide)))
                    have n2 : v0.toInt ≠ 10007 := fun e => q7 (Int32.toInt_inj.mp (e.trans (by decide)))
                    have n3 : v0.toInt ≠ 10008 := fun e => q9 (Int32.toInt_inj.mp (e.trans (by decide)))
                    have n4 : v0.toInt ≠ 10009 := fun e => q11 (Int32.toInt_inj.mp (e.trans (by decide)))
                    have n5 : v0.toInt ≠ 10010 := fun e => q13 (Int32.toInt_inj.mp (e.trans (by decide)))
                    have n6 : v0.toInt ≠ 10011 := fun e => q14 (Int32.toInt_inj.mp (e.trans (by decide)))
                    have n7 : v0.toInt ≠ 10012 := fun e => q15 (Int32.toInt_inj.mp (e.trans (by decide)))
                    omega
                  · refine h_iload_n dX4_join_110 rfl ?_
                    refine h_if_ne (tgt := 118) dX4_join_111 (by decide) (fun q16 => ?_) (fun q16 => ?_)
                    · rw [if_neg q16] at h
                      refine h_iload_n dX4_join_118 rfl ?_
                      refine h_iload_n dX4_join_119 rfl ?_
                      obtain ⟨g2, h⟩ := gd_some h
                      refine h_div dX4_join_120 g2 ?_
                      cases h
                      exact h_iret dX4_join_121 rfl E
                    · rw [if_pos q16] at h
                      refine h_iconst (0 : Int32) dX4_join_114 k_iconst_0 ?_
                      refine h_goto (tgt := 121) dX4_join_115 (by decide) ?_
                      cases h
                      exact h_iret dX4_join_121 rfl E
theorem m_X4_join {I : Mem} {P : PMem} {O : Nat → Int64} {D : Bool} {n : Nat} {v0 : Int32} {v1 : Int32} {v2 : Int32} {r : (Int32)}  (h : f_X4_join I v0 v1 v2 = some r) : MethR yX4_join cX4_join 3 (some .int) 2 [.inl v0, .inl v1, .inl v2] I P O D n (some (.inl r)) I P O D n := meth_R (Nat.le_refl _) (by decide) rfl (Nat.le_of_ble_eq_true rfl) rfl (fun X Q E => b_X4_join X Q  h E)
