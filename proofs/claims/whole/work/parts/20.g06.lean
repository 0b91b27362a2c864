theorem dX5_readTest_0 : decode cX5_readTest 0 = .ok (.aload_n 0, 1) := by decide +kernel
theorem dX5_readTest_1 : decode cX5_readTest 1 = .ok (.iload_n 1, 1) := by decide +kernel
theorem dX5_readTest_2 : decode cX5_readTest 2 = .ok (.invokevirtual 194, 3) := by decide +kernel
theorem dX5_readTest_5 : decode cX5_readTest 5 = .ok (.aload_n 0, 1) := by decide +kernel
theorem dX5_readTest_6 : decode cX5_readTest 6 = .ok (.bipush 60, 2) := by decide +kernel
theorem dX5_readTest_8 : decode cX5_readTest 8 = .ok (.invokevirtual 172, 3) := by decide +kernel
theorem dX5_readTest_11 : decode cX5_readTest 11 = .ok (.ifCond .eq 9, 3) := by decide +kernel
theorem dX5_readTest_14 : decode cX5_readTest 14 = .ok (.sipush 10008, 3) := by decide +kernel
theorem dX5_readTest_17 : decode cX5_readTest 17 = .ok (.goto 19, 3) := by decide +kernel
theorem dX5_readTest_20 : decode cX5_readTest 20 = .ok (.aload_n 0, 1) := by decide +kernel
theorem dX5_readTest_21 : decode cX5_readTest 21 = .ok (.bipush 61, 2) := by decide +kernel
theorem dX5_readTest_23 : decode cX5_readTest 23 = .ok (.invokevirtual 172, 3) := by decide +kernel
theorem dX5_readTest_26 : decode cX5_readTest 26 = .ok (.ifCond .eq 9, 3) := by decide +kernel
theorem dX5_readTest_29 : decode cX5_readTest 29 = .ok (.sipush 10009, 3) := by decide +kernel
theorem dX5_readTest_32 : decode cX5_readTest 32 = .ok (.goto 4, 3) := by decide +kernel
theorem dX5_readTest_35 : decode cX5_readTest 35 = .ok (.iconst (-1), 1) := by decide +kernel
theorem dX5_readTest_36 : decode cX5_readTest 36 = .ok (.istore_n 2, 1) := by decide +kernel
theorem dX5_readTest_37 : decode cX5_readTest 37 = .ok (.iload_n 2, 1) := by decide +kernel
theorem dX5_readTest_38 : decode cX5_readTest 38 = .ok (.iconst (-1), 1) := by decide +kernel
theorem dX5_readTest_39 : decode cX5_readTest 39 = .ok (.if_icmp .eq 23, 3) := by decide +kernel
theorem dX5_readTest_42 : decode cX5_readTest 42 = .ok (.aload_n 0, 1) := by decide +kernel
theorem dX5_readTest_43 : decode cX5_readTest 43 = .ok (.invokevirtual 43, 3) := by decide +kernel
theorem dX5_readTest_46 : decode cX5_readTest 46 = .ok (.aload_n 0, 1) := by decide +kernel
theorem dX5_readTest_47 : decode cX5_readTest 47 = .ok (.iload_n 1, 1) := by decide +kernel
theorem dX5_readTest_48 : decode cX5_readTest 48 = .ok (.invokevirtual 194, 3) := by decide +kernel
theorem dX5_readTest_51 : decode cX5_readTest 51 = .ok (.aload_n 0, 1) := by decide +kernel
theorem dX5_readTest_52 : decode cX5_readTest 52 = .ok (.getfield 19, 3) := by decide +kernel
theorem dX5_readTest_55 : decode cX5_readTest 55 = .ok (.getfield 160, 3) := by decide +kernel
theorem dX5_readTest_58 : decode cX5_readTest 58 = .ok (.iload_n 2, 1) := by decide +kernel
theorem dX5_readTest_59 : decode cX5_readTest 59 = .ok (.invokevirtual 181, 3) := by decide +kernel
theorem dX5_readTest_62 : decode cX5_readTest 62 = .ok (.return_, 1) := by decide +kernel
theorem dX5_readNot_0 : decode cX5_readNot 0 = .ok (.iconst 0, 1) := by decide +kernel
theorem dX5_readNot_1 : decode cX5_readNot 1 = .ok (.istore_n 2, 1) := by decide +kernel
theorem dX5_readNot_2 : decode cX5_readNot 2 = .ok (.iload_n 2, 1) := by decide +kernel
theorem dX5_readNot_3 : decode cX5_readNot 3 = .ok (.bipush 6, 2) := by decide +kernel
theorem dX5_readNot_5 : decode cX5_readNot 5 = .ok (.if_icmp .gt 33, 3) := by decide +kernel
theorem dX5_readNot_8 : decode cX5_readNot 8 = .ok (.aload_n 0, 1) := by decide +kernel
theorem dX5_readNot_9 : decode cX5_readNot 9 = .ok (.ldc 189, 2) := by decide +kernel
theorem dX5_readNot_11 : decode cX5_readNot 11 = .ok (.invokevirtual 57, 3) := by decide +kernel
theorem dX5_readNot_14 : decode cX5_readNot 14 = .ok (.ifCond .eq 24, 3) := by decide +kernel
theorem dX5_readNot_17 : decode cX5_readNot 17 = .ok (.iload_n 2, 1) := by decide +kernel
theorem dX5_readNot_18 : decode cX5_readNot 18 = .ok (.bipush 6, 2) := by decide +kernel
theorem dX5_readNot_20 : decode cX5_readNot 20 = .ok (.if_icmp .ne 8, 3) := by decide +kernel
theorem dX5_readNot_23 : decode cX5_readNot 23 = .ok (.aload_n 0, 1) := by decide +kernel
theorem dX5_readNot_24 : decode cX5_readNot 24 = .ok (.iconst 2, 1) := by decide +kernel
theorem dX5_readNot_25 : decode cX5_readNot 25 = .ok (.invokevirtual 94, 3) := by decide +kernel
theorem dX5_readNot_28 : decode cX5_readNot 28 = .ok (.aload_n 0, 1) := by decide +kernel
theorem dX5_readNot_29 : decode cX5_readNot 29 = .ok (.invokevirtual 43, 3) := by decide +kernel
theorem dX5_readNot_32 : decode cX5_readNot 32 = .ok (.iinc 2 1, 3) := by decide +kernel
theorem dX5_readNot_35 : decode cX5_readNot 35 = .ok (.goto (-33), 3) := by decide +kernel
theorem dX5_readNot_38 : decode cX5_readNot 38 = .ok (.aload_n 0, 1) := by decide +kernel
theorem dX5_readNot_39 : decode cX5_readNot 39 = .ok (.iload_n 1, 1) := by decide +kernel
theorem dX5_readNot_40 : decode cX5_readNot 40 = .ok (.invokevirtual 191, 3) := by decide +kernel
theorem dX5_readNot_43 : decode cX5_readNot 43 = .ok (.iconst 0, 1) := by decide +kernel
theorem dX5_readNot_44 : decode cX5_readNot 44 = .ok (.istore_n 3, 1) := by decide +kernel
theorem dX5_readNot_45 : decode cX5_readNot 45 = .ok (.iload_n 3, 1) := by decide +kernel
theorem dX5_readNot_46 : decode cX5_readNot 46 = .ok (.iload_n 2, 1) := by decide +kernel
theorem dX5_readNot_47 : decode cX5_readNot 47 = .ok (.if_icmp .ge 22, 3) := by decide +kernel
theorem dX5_readNot_50 : decode cX5_readNot 50 = .ok (.aload_n 0, 1) := by decide +kernel
theorem dX5_readNot_51 : decode cX5_readNot 51 = .ok (.getfield 19, 3) := by decide +kernel
theorem dX5_readNot_54 : decode cX5_readNot 54 = .ok (.getfield 160, 3) := by decide +kernel
theorem dX5_readNot_57 : decode cX5_readNot 57 = .ok (.sipush 10007, 3) := by decide +kernel
theorem dX5_readNot_60 : decode cX5_readNot 60 = .ok (.invokevirtual 181, 3) := by decide +kernel
theorem dX5_readNot_63 : decode cX5_readNot 63 = .ok (.iinc 3 1, 3) := by decide +kernel
theorem dX5_readNot_66 : decode cX5_readNot 66 = .ok (.goto (-21), 3) := by decide +kernel
theorem dX5_readNot_69 : decode cX5_readNot 69 = .ok (.return_, 1) := by decide +kernel
theorem dX5_readAnd_0 : decode cX5_readAnd 0 = .ok (.aload_n 0, 1) := by decide +kernel
theorem dX5_readAnd_1 : decode cX5_readAnd 1 = .ok (.iload_n 1, 1) := by decide +kernel
theorem dX5_readAnd_2 : decode cX5_readAnd 2 = .ok (.invokevirtual 184, 3) := by decide +kernel
theorem dX5_readAnd_5 : decode cX5_readAnd 5 = .ok (.iconst 0, 1) := by decide +kernel
theorem dX5_readAnd_6 : decode cX5_readAnd 6 = .ok (.istore_n 2, 1) := by decide +kernel
theorem dX5_readAnd_7 : decode cX5_readAnd 7 = .ok (.iload_n 2, 1) := by decide +kernel
theorem dX5_readAnd_8 : decode cX5_readAnd 8 = .ok (.sipush 600, 3) := by decide +kernel
theorem dX5_readAnd_11 : decode cX5_readAnd 11 = .ok (.if_icmp .ge 40, 3) := by decide +kernel
theorem dX5_readAnd_14 : decode cX5_readAnd 14 = .ok (.aload_n 0, 1) := by decide +kernel
theorem dX5_readAnd_15 : decode cX5_readAnd 15 = .ok (.ldc 187, 2) := by decide +kernel
theorem dX5_readAnd_17 : decode cX5_readAnd 17 = .ok (.invokevirtual 57, 3) := by decide +kernel
theorem dX5_readAnd_20 : decode cX5_readAnd 20 = .ok (.ifCond .eq 31, 3) := by decide +kernel
theorem dX5_readAnd_23 : decode cX5_readAnd 23 = .ok (.aload_n 0, 1) := by decide +kernel
theorem dX5_readAnd_24 : decode cX5_readAnd 24 = .ok (.invokevirtual 43, 3) := by decide +kernel
theorem dX5_readAnd_27 : decode cX5_readAnd 27 = .ok (.aload_n 0, 1) := by decide +kernel
theorem dX5_readAnd_28 : decode cX5_readAnd 28 = .ok (.iload_n 1, 1) := by decide +kernel
theorem dX5_readAnd_29 : decode cX5_readAnd 29 = .ok (.invokevirtual 184, 3) := by decide +kernel
theorem dX5_readAnd_32 : decode cX5_readAnd 32 = .ok (.aload_n 0, 1) := by decide +kernel
theorem dX5_readAnd_33 : decode cX5_readAnd 33 = .ok (.getfield 19, 3) := by decide +kernel
theorem dX5_readAnd_36 : decode cX5_readAnd 36 = .ok (.getfield 160, 3) := by decide +kernel
theorem dX5_readAnd_39 : decode cX5_readAnd 39 = .ok (.sipush 10006, 3) := by decide +kernel
theorem dX5_readAnd_42 : decode cX5_readAnd 42 = .ok (.invokevirtual 181, 3) := by decide +kernel
theorem dX5_readAnd_45 : decode cX5_readAnd 45 = .ok (.iinc 2 1, 3) := by decide +kernel
theorem dX5_readAnd_48 : decode cX5_readAnd 48 = .ok (.goto (-41), 3) := by decide +kernel
theorem dX5_readAnd_51 : decode cX5_readAnd 51 = .ok (.return_, 1) := by decide +kernel
theorem dX5_readExpr_0 : decode cX5_readExpr 0 = .ok (.iload_n 1, 1) := by decide +kernel
theorem dX5_readExpr_1 : decode cX5_readExpr 1 = .ok (.bipush 6, 2) := by decide +kernel
theorem dX5_readExpr_3 : decode cX5_readExpr 3 = .ok (.if_icmp .lt 38, 3) := by decide +kernel
theorem dX5_readExpr_6 : decode cX5_readExpr 6 = .ok (.aload_n 0, 1) := by decide +kernel
theorem dX5_readExpr_7 : decode cX5_readExpr 7 = .ok (.aload_n 0, 1) := by decide +kernel
theorem dX5_readExpr_8 : decode cX5_readExpr 8 = .ok (.getfield 46, 3) := by decide +kernel
theorem dX5_readExpr_11 : decode cX5_readExpr 11 = .ok (.iconst 2, 1) := by decide +kernel
theorem dX5_readExpr_12 : decode cX5_readExpr 12 = .ok (.if_icmp .eq 20, 3) := by decide +kernel
theorem dX5_readExpr_15 : decode cX5_readExpr 15 = .ok (.aload_n 0, 1) := by decide +kernel
theorem dX5_readExpr_16 : decode cX5_readExpr 16 = .ok (.getfield 46, 3) := by decide +kernel
theorem dX5_readExpr_19 : decode cX5_readExpr 19 = .ok (.iconst 1, 1) := by decide +kernel
theorem dX5_readExpr_20 : decode cX5_readExpr 20 = .ok (.if_icmp .eq 12, 3) := by decide +kernel
theorem dX5_readExpr_23 : decode cX5_readExpr 23 = .ok (.aload_n 0, 1) := by decide +kernel
theorem dX5_readExpr_24 : decode cX5_readExpr 24 = .ok (.bipush 40, 2) := by decide +kernel
theorem dX5_readExpr_26 : decode cX5_readExpr 26 = .ok (.invokevirtual 172, 3) := by decide +kernel
theorem dX5_readExpr_29 : decode cX5_readExpr 29 = .ok (.ifCond .eq 7, 3) := by decide +kernel
theorem dX5_readExpr_32 : decode cX5_readExpr 32 = .ok (.iconst 2, 1) := by decide +kernel
theorem dX5_readExpr_33 : decode cX5_readExpr 33 = .ok (.goto 4, 3) := by decide +kernel
theorem dX5_readExpr_36 : decode cX5_readExpr 36 = .ok (.iconst 1, 1) := by decide +kernel
theorem dX5_readExpr_37 : decode cX5_readExpr 37 = .ok (.invokevirtual 94, 3) := by decide +kernel
theorem dX5_readExpr_40 : decode cX5_readExpr 40 = .ok (.return_, 1) := by decide +kernel
theorem dX5_readExpr_41 : decode cX5_readExpr 41 = .ok (.aload_n 0, 1) := by decide +kernel
theorem dX5_readExpr_42 : decode cX5_readExpr 42 = .ok (.iload_n 1, 1) := by decide +kernel
theorem dX5_readExpr_43 : decode cX5_readExpr 43 = .ok (.invokevirtual 176, 3) := by decide +kernel
theorem dX5_readExpr_46 : decode cX5_readExpr 46 = .ok (.iconst 0, 1) := by decide +kernel
theorem dX5_readExpr_47 : decode cX5_readExpr 47 = .ok (.istore_n 2, 1) := by decide +kernel
theorem dX5_readExpr_48 : decode cX5_readExpr 48 = .ok (.iload_n 2, 1) := by decide +kernel
theorem dX5_readExpr_49 : decode cX5_readExpr 49 = .ok (.sipush 600, 3) := by decide +kernel
theorem dX5_readExpr_52 : decode cX5_readExpr 52 = .ok (.if_icmp .ge 40, 3) := by decide +kernel
theorem dX5_readExpr_55 : decode cX5_readExpr 55 = .ok (.aload_n 0, 1) := by decide +kernel
theorem dX5_readExpr_56 : decode cX5_readExpr 56 = .ok (.ldc 179, 2) := by decide +kernel
theorem dX5_readExpr_58 : decode cX5_readExpr 58 = .ok (.invokevirtual 57, 3) := by decide +kernel
theorem dX5_readExpr_61 : decode cX5_readExpr 61 = .ok (.ifCond .eq 31, 3) := by decide +kernel
theorem dX5_readExpr_64 : decode cX5_readExpr 64 = .ok (.aload_n 0, 1) := by decide +kernel
theorem dX5_readExpr_65 : decode cX5_readExpr 65 = .ok (.invokevirtual 43, 3) := by decide +kernel
theorem dX5_readExpr_68 : decode cX5_readExpr 68 = .ok (.aload_n 0, 1) := by decide +kernel
theorem dX5_readExpr_69 : decode cX5_readExpr 69 = .ok (.iload_n 1, 1) := by decide +kernel
theorem dX5_readExpr_70 : decode cX5_readExpr 70 = .ok (.invokevirtual 176, 3) := by decide +kernel
theorem dX5_readExpr_73 : decode cX5_readExpr 73 = .ok (.aload_n 0, 1) := by decide +kernel
theorem dX5_readExpr_74 : decode cX5_readExpr 74 = .ok (.getfield 19, 3) := by decide +kernel
theorem dX5_readExpr_77 : decode cX5_readExpr 77 = .ok (.getfield 160, 3) := by decide +kernel
theorem dX5_readExpr_80 : decode cX5_readExpr 80 = .ok (.sipush 10005, 3) := by decide +kernel
theorem dX5_readExpr_83 : decode cX5_readExpr 83 = .ok (.invokevirtual 181, 3) := by decide +kernel
theorem dX5_readExpr_86 : decode cX5_readExpr 86 = .ok (.iinc 2 1, 3) := by decide +kernel
theorem dX5_readExpr_89 : decode cX5_readExpr 89 = .ok (.goto (-41), 3) := by decide +kernel
theorem dX5_readExpr_92 : decode cX5_readExpr 92 = .ok (.return_, 1) := by decide +kernel
theorem dX5_readLaw_0 : decode cX5_readLaw 0 = .ok (.aload_n 0, 1) := by decide +kernel
theorem dX5_readLaw_1 : decode cX5_readLaw 1 = .ok (.getfield 19, 3) := by decide +kernel
theorem dX5_readLaw_4 : decode cX5_readLaw 4 = .ok (.getfield 160, 3) := by decide +kernel
theorem dX5_readLaw_7 : decode cX5_readLaw 7 = .ok (.invokevirtual 163, 3) := by decide +kernel
theorem dX5_readLaw_10 : decode cX5_readLaw 10 = .ok (.ifCond .eq 9, 3) := by decide +kernel
theorem dX5_readLaw_13 : decode cX5_readLaw 13 = .ok (.aload_n 0, 1) := by decide +kernel
theorem dX5_readLaw_14 : decode cX5_readLaw 14 = .ok (.iconst 5, 1) := by decide +kernel
theorem dX5_readLaw_15 : decode cX5_readLaw 15 = .ok (.invokevirtual 94, 3) := by decide +kernel
theorem dX5_readLaw_18 : decode cX5_readLaw 18 = .ok (.return_, 1) := by decide +kernel
theorem dX5_readLaw_19 : decode cX5_readLaw 19 = .ok (.aload_n 0, 1) := by decide +kernel
theorem dX5_readLaw_20 : decode cX5_readLaw 20 = .ok (.invokevirtual 43, 3) := by decide +kernel
theorem dX5_readLaw_23 : decode cX5_readLaw 23 = .ok (.aload_n 0, 1) := by decide +kernel
theorem dX5_readLaw_24 : decode cX5_readLaw 24 = .ok (.iconst 0, 1) := by decide +kernel
theorem dX5_readLaw_25 : decode cX5_readLaw 25 = .ok (.invokevirtual 169, 3) := by decide +kernel
theorem dX5_readLaw_28 : decode cX5_readLaw 28 = .ok (.return_, 1) := by decide +kernel
theorem dX5_readLine_0 : decode cX5_readLine 0 = .ok (.aload_n 0, 1) := by decide +kernel
theorem dX5_readLine_1 : decode cX5_readLine 1 = .ok (.ldc 55, 2) := by decide +kernel
theorem dX5_readLine_3 : decode cX5_readLine 3 = .ok (.invokevirtual 57, 3) := by decide +kernel
theorem dX5_readLine_6 : decode cX5_readLine 6 = .ok (.ifCond .eq 10, 3) := by decide +kernel
theorem dX5_readLine_9 : decode cX5_readLine 9 = .ok (.aload_n 0, 1) := by decide +kernel
theorem dX5_readLine_10 : decode cX5_readLine 10 = .ok (.invokevirtual 61, 3) := by decide +kernel
theorem dX5_readLine_13 : decode cX5_readLine 13 = .ok (.goto 123, 3) := by decide +kernel
theorem dX5_readLine_16 : decode cX5_readLine 16 = .ok (.aload_n 0, 1) := by decide +kernel
theorem dX5_readLine_17 : decode cX5_readLine 17 = .ok (.ldc 64, 2) := by decide +kernel
theorem dX5_readLine_19 : decode cX5_readLine 19 = .ok (.invokevirtual 57, 3) := by decide +kernel
theorem dX5_readLine_22 : decode cX5_readLine 22 = .ok (.ifCond .eq 10, 3) := by decide +kernel
theorem dX5_readLine_25 : decode cX5_readLine 25 = .ok (.aload_n 0, 1) := by decide +kernel
theorem dX5_readLine_26 : decode cX5_readLine 26 = .ok (.invokevirtual 66, 3) := by decide +kernel
theorem dX5_readLine_29 : decode cX5_readLine 29 = .ok (.goto 107, 3) := by decide +kernel
theorem dX5_readLine_32 : decode cX5_readLine 32 = .ok (.aload_n 0, 1) := by decide +kernel
theorem dX5_readLine_33 : decode cX5_readLine 33 = .ok (.ldc 69, 2) := by decide +kernel
theorem dX5_readLine_35 : decode cX5_readLine 35 = .ok (.invokevirtual 57, 3) := by decide +kernel
theorem dX5_readLine_38 : decode cX5_readLine 38 = .ok (.ifCond .eq 10, 3) := by decide +kernel
theorem dX5_readLine_41 : decode cX5_readLine 41 = .ok (.aload_n 0, 1) := by decide +kernel
theorem dX5_readLine_42 : decode cX5_readLine 42 = .ok (.invokevirtual 71, 3) := by decide +kernel
theorem dX5_readLine_45 : decode cX5_readLine 45 = .ok (.goto 91, 3) := by decide +kernel
theorem dX5_readLine_48 : decode cX5_readLine 48 = .ok (.aload_n 0, 1) := by decide +kernel
theorem dX5_readLine_49 : decode cX5_readLine 49 = .ok (.ldc 74, 2) := by decide +kernel
theorem dX5_readLine_51 : decode cX5_readLine 51 = .ok (.invokevirtual 57, 3) := by decide +kernel
theorem dX5_readLine_54 : decode cX5_readLine 54 = .ok (.ifCond .eq 11, 3) := by decide +kernel
theorem dX5_readLine_57 : decode cX5_readLine 57 = .ok (.aload_n 0, 1) := by decide +kernel
theorem dX5_readLine_58 : decode cX5_readLine 58 = .ok (.iconst 0, 1) := by decide +kernel
theorem dX5_readLine_59 : decode cX5_readLine 59 = .ok (.invokevirtual 76, 3) := by decide +kernel
theorem dX5_readLine_62 : decode cX5_readLine 62 = .ok (.goto 74, 3) := by decide +kernel
theorem dX5_readLine_65 : decode cX5_readLine 65 = .ok (.aload_n 0, 1) := by decide +kernel
theorem dX5_readLine_66 : decode cX5_readLine 66 = .ok (.ldc 80, 2) := by decide +kernel
theorem dX5_readLine_68 : decode cX5_readLine 68 = .ok (.invokevirtual 57, 3) := by decide +kernel
theorem dX5_readLine_71 : decode cX5_readLine 71 = .ok (.ifCond .eq 11, 3) := by decide +kernel
theorem dX5_readLine_74 : decode cX5_readLine 74 = .ok (.aload_n 0, 1) := by decide +kernel
theorem dX5_readLine_75 : decode cX5_readLine 75 = .ok (.iconst 1, 1) := by decide +kernel
theorem dX5_readLine_76 : decode cX5_readLine 76 = .ok (.invokevirtual 76, 3) := by decide +kernel
theorem dX5_readLine_79 : decode cX5_readLine 79 = .ok (.goto 57, 3) := by decide +kernel
theorem dX5_readLine_82 : decode cX5_readLine 82 = .ok (.aload_n 0, 1) := by decide +kernel
theorem dX5_readLine_83 : decode cX5_readLine 83 = .ok (.ldc 82, 2) := by decide +kernel
theorem dX5_readLine_85 : decode cX5_readLine 85 = .ok (.invokevirtual 57, 3) := by decide +kernel
theorem dX5_readLine_88 : decode cX5_readLine 88 = .ok (.ifCond .eq 11, 3) := by decide +kernel
theorem dX5_readLine_91 : decode cX5_readLine 91 = .ok (.aload_n 0, 1) := by decide +kernel
theorem dX5_readLine_92 : decode cX5_readLine 92 = .ok (.iconst 2, 1) := by decide +kernel
theorem dX5_readLine_93 : decode cX5_readLine 93 = .ok (.invokevirtual 76, 3) := by decide +kernel
theorem dX5_readLine_96 : decode cX5_readLine 96 = .ok (.goto 40, 3) := by decide +kernel
theorem dX5_readLine_99 : decode cX5_readLine 99 = .ok (.aload_n 0, 1) := by decide +kernel
theorem dX5_readLine_100 : decode cX5_readLine 100 = .ok (.ldc 84, 2) := by decide +kernel
theorem dX5_readLine_102 : decode cX5_readLine 102 = .ok (.invokevirtual 57, 3) := by decide +kernel
theorem dX5_readLine_105 : decode cX5_readLine 105 = .ok (.ifCond .eq 10, 3) := by decide +kernel
theorem dX5_readLine_108 : decode cX5_readLine 108 = .ok (.aload_n 0, 1) := by decide +kernel
theorem dX5_readLine_109 : decode cX5_readLine 109 = .ok (.invokevirtual 86, 3) := by decide +kernel
theorem dX5_readLine_112 : decode cX5_readLine 112 = .ok (.goto 24, 3) := by decide +kernel
theorem dX5_readLine_115 : decode cX5_readLine 115 = .ok (.aload_n 0, 1) := by decide +kernel
theorem dX5_readLine_116 : decode cX5_readLine 116 = .ok (.ldc 89, 2) := by decide +kernel
theorem dX5_readLine_118 : decode cX5_readLine 118 = .ok (.invokevirtual 57, 3) := by decide +kernel
theorem dX5_readLine_121 : decode cX5_readLine 121 = .ok (.ifCond .eq 10, 3) := by decide +kernel
theorem dX5_readLine_124 : decode cX5_readLine 124 = .ok (.aload_n 0, 1) := by decide +kernel
theorem dX5_readLine_125 : decode cX5_readLine 125 = .ok (.invokevirtual 91, 3) := by decide +kernel
theorem dX5_readLine_128 : decode cX5_readLine 128 = .ok (.goto 8, 3) := by decide +kernel
theorem dX5_readLine_131 : decode cX5_readLine 131 = .ok (.aload_n 0, 1) := by decide +kernel
theorem dX5_readLine_132 : decode cX5_readLine 132 = .ok (.iconst 1, 1) := by decide +kernel
theorem dX5_readLine_133 : decode cX5_readLine 133 = .ok (.invokevirtual 94, 3) := by decide +kernel
theorem dX5_readLine_136 : decode cX5_readLine 136 = .ok (.aload_n 0, 1) := by decide +kernel
theorem dX5_readLine_137 : decode cX5_readLine 137 = .ok (.bipush 59, 2) := by decide +kernel
theorem dX5_readLine_139 : decode cX5_readLine 139 = .ok (.invokevirtual 97, 3) := by decide +kernel
theorem dX5_readLine_142 : decode cX5_readLine 142 = .ok (.return_, 1) := by decide +kernel
theorem dX5_readLand_0 : decode cX5_readLand 0 = .ok (.aload_n 0, 1) := by decide +kernel
theorem dX5_readLand_1 : decode cX5_readLand 1 = .ok (.iload_n 1, 1) := by decide +kernel
theorem dX5_readLand_2 : decode cX5_readLand 2 = .ok (.aload_n 0, 1) := by decide +kernel
theorem dX5_readLand_3 : decode cX5_readLand 3 = .ok (.getfield 15, 3) := by decide +kernel
theorem dX5_readLand_6 : decode cX5_readLand 6 = .ok (.arraylength, 1) := by decide +kernel
theorem dX5_readLand_7 : decode cX5_readLand 7 = .ok (.invokestatic 23, 3) := by decide +kernel
theorem dX5_readLand_10 : decode cX5_readLand 10 = .ok (.putfield 29, 3) := by decide +kernel
theorem dX5_readLand_13 : decode cX5_readLand 13 = .ok (.aload_n 0, 1) := by decide +kernel
theorem dX5_readLand_14 : decode cX5_readLand 14 = .ok (.aload_n 2, 1) := by decide +kernel
theorem dX5_readLand_15 : decode cX5_readLand 15 = .ok (.putfield 19, 3) := by decide +kernel
theorem dX5_readLand_18 : decode cX5_readLand 18 = .ok (.aload_n 0, 1) := by decide +kernel
theorem dX5_readLand_19 : decode cX5_readLand 19 = .ok (.getfield 19, 3) := by decide +kernel
theorem dX5_readLand_22 : decode cX5_readLand 22 = .ok (.invokevirtual 32, 3) := by decide +kernel
theorem dX5_readLand_25 : decode cX5_readLand 25 = .ok (.aload_n 0, 1) := by decide +kernel
theorem dX5_readLand_26 : decode cX5_readLand 26 = .ok (.iconst 0, 1) := by decide +kernel
theorem dX5_readLand_27 : decode cX5_readLand 27 = .ok (.putfield 37, 3) := by decide +kernel
theorem dX5_readLand_30 : decode cX5_readLand 30 = .ok (.aload_n 0, 1) := by decide +kernel
theorem dX5_readLand_31 : decode cX5_readLand 31 = .ok (.iconst (-1), 1) := by decide +kernel
theorem dX5_readLand_32 : decode cX5_readLand 32 = .ok (.putfield 9, 3) := by decide +kernel
theorem dX5_readLand_35 : decode cX5_readLand 35 = .ok (.aload_n 0, 1) := by decide +kernel
theorem dX5_readLand_36 : decode cX5_readLand 36 = .ok (.iconst 0, 1) := by decide +kernel
theorem dX5_readLand_37 : decode cX5_readLand 37 = .ok (.putfield 40, 3) := by decide +kernel
theorem dX5_readLand_40 : decode cX5_readLand 40 = .ok (.aload_n 0, 1) := by decide +kernel
theorem dX5_readLand_41 : decode cX5_readLand 41 = .ok (.invokevirtual 43, 3) := by decide +kernel
theorem dX5_readLand_44 : decode cX5_readLand 44 = .ok (.iconst 0, 1) := by decide +kernel
theorem dX5_readLand_45 : decode cX5_readLand 45 = .ok (.istore_n 3, 1) := by decide +kernel
theorem dX5_readLand_46 : decode cX5_readLand 46 = .ok (.iload_n 3, 1) := by decide +kernel
theorem dX5_readLand_47 : decode cX5_readLand 47 = .ok (.sipush 600, 3) := by decide +kernel
theorem dX5_readLand_50 : decode cX5_readLand 50 = .ok (.if_icmp .ge 27, 3) := by decide +kernel
theorem dX5_readLand_53 : decode cX5_readLand 53 = .ok (.aload_n 0, 1) := by decide +kernel
theorem dX5_readLand_54 : decode cX5_readLand 54 = .ok (.getfield 37, 3) := by decide +kernel
theorem dX5_readLand_57 : decode cX5_readLand 57 = .ok (.ifCond .ne 20, 3) := by decide +kernel
theorem dX5_readLand_60 : decode cX5_readLand 60 = .ok (.aload_n 0, 1) := by decide +kernel
theorem dX5_readLand_61 : decode cX5_readLand 61 = .ok (.getfield 46, 3) := by decide +kernel
theorem dX5_readLand_64 : decode cX5_readLand 64 = .ok (.ifCond .eq 13, 3) := by decide +kernel
theorem dX5_readLand_67 : decode cX5_readLand 67 = .ok (.aload_n 0, 1) := by decide +kernel
theorem dX5_readLand_68 : decode cX5_readLand 68 = .ok (.invokevirtual 49, 3) := by decide +kernel
theorem dX5_readLand_71 : decode cX5_readLand 71 = .ok (.iinc 3 1, 3) := by decide +kernel
theorem dX5_readLand_74 : decode cX5_readLand 74 = .ok (.goto (-28), 3) := by decide +kernel
theorem dX5_readLand_77 : decode cX5_readLand 77 = .ok (.aload_n 0, 1) := by decide +kernel
theorem dX5_readLand_78 : decode cX5_readLand 78 = .ok (.getfield 37, 3) := by decide +kernel
theorem dX5_readLand_81 : decode cX5_readLand 81 = .ok (.ifCond .ne 10, 3) := by decide +kernel
theorem dX5_readLand_84 : decode cX5_readLand 84 = .ok (.aload_n 0, 1) := by decide +kernel
theorem dX5_readLand_85 : decode cX5_readLand 85 = .ok (.getfield 19, 3) := by decide +kernel
theorem dX5_readLand_88 : decode cX5_readLand 88 = .ok (.invokevirtual 52, 3) := by decide +kernel
theorem dX5_readLand_91 : decode cX5_readLand 91 = .ok (.return_, 1) := by decide +kernel
theorem dX6_isFull_0 : decode cX6_isFull 0 = .ok (.aload_n 0, 1) := by decide +kernel
theorem dX6_isFull_1 : decode cX6_isFull 1 = .ok (.getfield 25, 3) := by decide +kernel
theorem dX6_isFull_4 : decode cX6_isFull 4 = .ok (.aload_n 0, 1) := by decide +kernel
theorem dX6_isFull_5 : decode cX6_isFull 5 = .ok (.getfield 13, 3) := by decide +kernel
theorem dX6_isFull_8 : decode cX6_isFull 8 = .ok (.arraylength, 1) := by decide +kernel
theorem dX6_isFull_9 : decode cX6_isFull 9 = .ok (.if_icmp .lt 7, 3) := by decide +kernel
theorem dX6_isFull_12 : decode cX6_isFull 12 = .ok (.iconst 1, 1) := by decide +kernel
theorem dX6_isFull_13 : decode cX6_isFull 13 = .ok (.goto 4, 3) := by decide +kernel
theorem dX6_isFull_16 : decode cX6_isFull 16 = .ok (.iconst 0, 1) := by decide +kernel
theorem dX6_isFull_17 : decode cX6_isFull 17 = .ok (.ireturn, 1) := by decide +kernel
theorem dX6_dropFirst_0 : decode cX6_dropFirst 0 = .ok (.aload_n 0, 1) := by decide +kernel
theorem dX6_dropFirst_1 : decode cX6_dropFirst 1 = .ok (.getfield 25, 3) := by decide +kernel
theorem dX6_dropFirst_4 : decode cX6_dropFirst 4 = .ok (.ifCond .le 64, 3) := by decide +kernel
theorem dX6_dropFirst_7 : decode cX6_dropFirst 7 = .ok (.aload_n 0, 1) := by decide +kernel
theorem dX6_dropFirst_8 : decode cX6_dropFirst 8 = .ok (.dup, 1) := by decide +kernel
theorem dX6_dropFirst_9 : decode cX6_dropFirst 9 = .ok (.getfield 25, 3) := by decide +kernel
theorem dX6_dropFirst_12 : decode cX6_dropFirst 12 = .ok (.iconst 1, 1) := by decide +kernel
theorem dX6_dropFirst_13 : decode cX6_dropFirst 13 = .ok (.isub, 1) := by decide +kernel
theorem dX6_dropFirst_14 : decode cX6_dropFirst 14 = .ok (.putfield 25, 3) := by decide +kernel
theorem dX6_dropFirst_17 : decode cX6_dropFirst 17 = .ok (.aload_n 0, 1) := by decide +kernel
theorem dX6_dropFirst_18 : decode cX6_dropFirst 18 = .ok (.getfield 13, 3) := by decide +kernel
theorem dX6_dropFirst_21 : decode cX6_dropFirst 21 = .ok (.iconst 1, 1) := by decide +kernel
theorem dX6_dropFirst_22 : decode cX6_dropFirst 22 = .ok (.aload_n 0, 1) := by decide +kernel
theorem dX6_dropFirst_23 : decode cX6_dropFirst 23 = .ok (.getfield 13, 3) := by decide +kernel
theorem dX6_dropFirst_26 : decode cX6_dropFirst 26 = .ok (.iconst 0, 1) := by decide +kernel
theorem dX6_dropFirst_27 : decode cX6_dropFirst 27 = .ok (.aload_n 0, 1) := by decide +kernel
theorem dX6_dropFirst_28 : decode cX6_dropFirst 28 = .ok (.getfield 25, 3) := by decide +kernel
theorem dX6_dropFirst_31 : decode cX6_dropFirst 31 = .ok (.invokestatic 36, 3) := by decide +kernel
theorem dX6_dropFirst_34 : decode cX6_dropFirst 34 = .ok (.aload_n 0, 1) := by decide +kernel
theorem dX6_dropFirst_35 : decode cX6_dropFirst 35 = .ok (.getfield 19, 3) := by decide +kernel
theorem dX6_dropFirst_38 : decode cX6_dropFirst 38 = .ok (.iconst 1, 1) := by decide +kernel
theorem dX6_dropFirst_39 : decode cX6_dropFirst 39 = .ok (.aload_n 0, 1) := by decide +kernel
theorem dX6_dropFirst_40 : decode cX6_dropFirst 40 = .ok (.getfield 19, 3) := by decide +kernel
theorem dX6_dropFirst_43 : decode cX6_dropFirst 43 = .ok (.iconst 0, 1) := by decide +kernel
theorem dX6_dropFirst_44 : decode cX6_dropFirst 44 = .ok (.aload_n 0, 1) := by decide +kernel
theorem dX6_dropFirst_45 : decode cX6_dropFirst 45 = .ok (.getfield 25, 3) := by decide +kernel
theorem dX6_dropFirst_48 : decode cX6_dropFirst 48 = .ok (.invokestatic 36, 3) := by decide +kernel
theorem dX6_dropFirst_51 : decode cX6_dropFirst 51 = .ok (.aload_n 0, 1) := by decide +kernel
theorem dX6_dropFirst_52 : decode cX6_dropFirst 52 = .ok (.getfield 22, 3) := by decide +kernel
theorem dX6_dropFirst_55 : decode cX6_dropFirst 55 = .ok (.iconst 1, 1) := by decide +kernel
theorem dX6_dropFirst_56 : decode cX6_dropFirst 56 = .ok (.aload_n 0, 1) := by decide +kernel
theorem dX6_dropFirst_57 : decode cX6_dropFirst 57 = .ok (.getfield 22, 3) := by decide +kernel
theorem dX6_dropFirst_60 : decode cX6_dropFirst 60 = .ok (.iconst 0, 1) := by decide +kernel
theorem dX6_dropFirst_61 : decode cX6_dropFirst 61 = .ok (.aload_n 0, 1) := by decide +kernel
theorem dX6_dropFirst_62 : decode cX6_dropFirst 62 = .ok (.getfield 25, 3) := by decide +kernel
theorem dX6_dropFirst_65 : decode cX6_dropFirst 65 = .ok (.invokestatic 36, 3) := by decide +kernel
theorem dX6_dropFirst_68 : decode cX6_dropFirst 68 = .ok (.return_, 1) := by decide +kernel
theorem dX6_add_0 : decode cX6_add 0 = .ok (.aload_n 0, 1) := by decide +kernel
theorem dX6_add_1 : decode cX6_add 1 = .ok (.invokevirtual 29, 3) := by decide +kernel
theorem dX6_add_4 : decode cX6_add 4 = .ok (.ifCond .eq 7, 3) := by decide +kernel
theorem dX6_add_7 : decode cX6_add 7 = .ok (.aload_n 0, 1) := by decide +kernel
theorem dX6_add_8 : decode cX6_add 8 = .ok (.invokevirtual 33, 3) := by decide +kernel
theorem dX6_add_11 : decode cX6_add 11 = .ok (.aload_n 0, 1) := by decide +kernel
theorem dX6_add_12 : decode cX6_add 12 = .ok (.getfield 13, 3) := by decide +kernel
theorem dX6_add_15 : decode cX6_add 15 = .ok (.aload_n 0, 1) := by decide +kernel
theorem dX6_add_16 : decode cX6_add 16 = .ok (.getfield 25, 3) := by decide +kernel
theorem dX6_add_19 : decode cX6_add 19 = .ok (.iload_n 1, 1) := by decide +kernel
theorem dX6_add_20 : decode cX6_add 20 = .ok (.iastore, 1) := by decide +kernel
theorem dX6_add_21 : decode cX6_add 21 = .ok (.aload_n 0, 1) := by decide +kernel
theorem dX6_add_22 : decode cX6_add 22 = .ok (.getfield 19, 3) := by decide +kernel
theorem dX6_add_25 : decode cX6_add 25 = .ok (.aload_n 0, 1) := by decide +kernel
theorem dX6_add_26 : decode cX6_add 26 = .ok (.getfield 25, 3) := by decide +kernel
theorem dX6_add_29 : decode cX6_add 29 = .ok (.iload_n 2, 1) := by decide +kernel
theorem dX6_add_30 : decode cX6_add 30 = .ok (.iastore, 1) := by decide +kernel
theorem dX6_add_31 : decode cX6_add 31 = .ok (.aload_n 0, 1) := by decide +kernel
theorem dX6_add_32 : decode cX6_add 32 = .ok (.getfield 22, 3) := by decide +kernel
theorem dX6_add_35 : decode cX6_add 35 = .ok (.aload_n 0, 1) := by decide +kernel
theorem dX6_add_36 : decode cX6_add 36 = .ok (.getfield 25, 3) := by decide +kernel
theorem dX6_add_39 : decode cX6_add 39 = .ok (.iload_n 3, 1) := by decide +kernel
theorem dX6_add_40 : decode cX6_add 40 = .ok (.iastore, 1) := by decide +kernel
theorem dX6_add_41 : decode cX6_add 41 = .ok (.aload_n 0, 1) := by decide +kernel
theorem dX6_add_42 : decode cX6_add 42 = .ok (.dup, 1) := by decide +kernel
theorem dX6_add_43 : decode cX6_add 43 = .ok (.getfield 25, 3) := by decide +kernel
theorem dX6_add_46 : decode cX6_add 46 = .ok (.iconst 1, 1) := by decide +kernel
theorem dX6_add_47 : decode cX6_add 47 = .ok (.iadd, 1) := by decide +kernel
theorem dX6_add_48 : decode cX6_add 48 = .ok (.putfield 25, 3) := by decide +kernel
theorem dX6_add_51 : decode cX6_add 51 = .ok (.return_, 1) := by decide +kernel
theorem dX7_putBytes_0 : decode cX7_putBytes 0 = .ok (.bipush 24, 2) := by decide +kernel
theorem dX7_putBytes_2 : decode cX7_putBytes 2 = .ok (.istore_n 2, 1) := by decide +kernel
theorem dX7_putBytes_3 : decode cX7_putBytes 3 = .ok (.iload_n 2, 1) := by decide +kernel
theorem dX7_putBytes_4 : decode cX7_putBytes 4 = .ok (.ifCond .lt 42, 3) := by decide +kernel
theorem dX7_putBytes_7 : decode cX7_putBytes 7 = .ok (.aload_n 0, 1) := by decide +kernel
theorem dX7_putBytes_8 : decode cX7_putBytes 8 = .ok (.getfield 58, 3) := by decide +kernel
theorem dX7_putBytes_11 : decode cX7_putBytes 11 = .ok (.sipush 600, 3) := by decide +kernel
theorem dX7_putBytes_14 : decode cX7_putBytes 14 = .ok (.if_icmp .ge 32, 3) := by decide +kernel
theorem dX7_putBytes_17 : decode cX7_putBytes 17 = .ok (.aload_n 0, 1) := by decide +kernel
theorem dX7_putBytes_18 : decode cX7_putBytes 18 = .ok (.getfield 9, 3) := by decide +kernel
theorem dX7_putBytes_21 : decode cX7_putBytes 21 = .ok (.aload_n 0, 1) := by decide +kernel
theorem dX7_putBytes_22 : decode cX7_putBytes 22 = .ok (.getfield 58, 3) := by decide +kernel
theorem dX7_putBytes_25 : decode cX7_putBytes 25 = .ok (.iload_n 1, 1) := by decide +kernel
theorem dX7_putBytes_26 : decode cX7_putBytes 26 = .ok (.iload_n 2, 1) := by decide +kernel
theorem dX7_putBytes_27 : decode cX7_putBytes 27 = .ok (.iushr, 1) := by decide +kernel
theorem dX7_putBytes_28 : decode cX7_putBytes 28 = .ok (.i2b, 1) := by decide +kernel
theorem dX7_putBytes_29 : decode cX7_putBytes 29 = .ok (.bastore, 1) := by decide +kernel
theorem dX7_putBytes_30 : decode cX7_putBytes 30 = .ok (.aload_n 0, 1) := by decide +kernel
theorem dX7_putBytes_31 : decode cX7_putBytes 31 = .ok (.dup, 1) := by decide +kernel
theorem dX7_putBytes_32 : decode cX7_putBytes 32 = .ok (.getfield 58, 3) := by decide +kernel
theorem dX7_putBytes_35 : decode cX7_putBytes 35 = .ok (.iconst 1, 1) := by decide +kernel
theorem dX7_putBytes_36 : decode cX7_putBytes 36 = .ok (.iadd, 1) := by decide +kernel
theorem dX7_putBytes_37 : decode cX7_putBytes 37 = .ok (.putfield 58, 3) := by decide +kernel
theorem dX7_putBytes_40 : decode cX7_putBytes 40 = .ok (.iinc 2 (-8), 3) := by decide +kernel
theorem dX7_putBytes_43 : decode cX7_putBytes 43 = .ok (.goto (-40), 3) := by decide +kernel
theorem dX7_putBytes_46 : decode cX7_putBytes 46 = .ok (.return_, 1) := by decide +kernel
theorem dX7_feed_0 : decode cX7_feed 0 = .ok (.aload_n 0, 1) := by decide +kernel
theorem dX7_feed_1 : decode cX7_feed 1 = .ok (.getfield 58, 3) := by decide +kernel
theorem dX7_feed_4 : decode cX7_feed 4 = .ok (.bipush 20, 2) := by decide +kernel
theorem dX7_feed_6 : decode cX7_feed 6 = .ok (.iadd, 1) := by decide +kernel
theorem dX7_feed_7 : decode cX7_feed 7 = .ok (.sipush 600, 3) := by decide +kernel
theorem dX7_feed_10 : decode cX7_feed 10 = .ok (.if_icmp .le 5, 3) := by decide +kernel
theorem dX7_feed_13 : decode cX7_feed 13 = .ok (.iconst (-1), 1) := by decide +kernel
theorem dX7_feed_14 : decode cX7_feed 14 = .ok (.ireturn, 1) := by decide +kernel
theorem dX7_feed_15 : decode cX7_feed 15 = .ok (.aload_n 0, 1) := by decide +kernel
theorem dX7_feed_16 : decode cX7_feed 16 = .ok (.iload_n 1, 1) := by decide +kernel
theorem dX7_feed_17 : decode cX7_feed 17 = .ok (.invokevirtual 61, 3) := by decide +kernel
theorem dX7_feed_20 : decode cX7_feed 20 = .ok (.aload_n 0, 1) := by decide +kernel
theorem dX7_feed_21 : decode cX7_feed 21 = .ok (.iload_n 2, 1) := by decide +kernel
theorem dX7_feed_22 : decode cX7_feed 22 = .ok (.invokevirtual 61, 3) := by decide +kernel
theorem dX7_feed_25 : decode cX7_feed 25 = .ok (.aload_n 0, 1) := by decide +kernel
theorem dX7_feed_26 : decode cX7_feed 26 = .ok (.iload_n 3, 1) := by decide +kernel
theorem dX7_feed_27 : decode cX7_feed 27 = .ok (.invokevirtual 61, 3) := by decide +kernel
theorem dX7_feed_30 : decode cX7_feed 30 = .ok (.aload_n 0, 1) := by decide +kernel
theorem dX7_feed_31 : decode cX7_feed 31 = .ok (.iload 4, 2) := by decide +kernel
theorem dX7_feed_33 : decode cX7_feed 33 = .ok (.invokevirtual 61, 3) := by decide +kernel
theorem dX7_feed_36 : decode cX7_feed 36 = .ok (.aload_n 0, 1) := by decide +kernel
theorem dX7_feed_37 : decode cX7_feed 37 = .ok (.iload 5, 2) := by decide +kernel
theorem dX7_feed_39 : decode cX7_feed 39 = .ok (.invokevirtual 61, 3) := by decide +kernel
theorem dX7_feed_42 : decode cX7_feed 42 = .ok (.aload_n 0, 1) := by decide +kernel
theorem dX7_feed_43 : decode cX7_feed 43 = .ok (.getfield 58, 3) := by decide +kernel
theorem dX7_feed_46 : decode cX7_feed 46 = .ok (.ireturn, 1) := by decide +kernel
theorem dX7_land_0 : decode cX7_land 0 = .ok (.iload_n 1, 1) := by decide +kernel
theorem dX7_land_1 : decode cX7_land 1 = .ok (.ifCond .lt 11, 3) := by decide +kernel
theorem dX7_land_4 : decode cX7_land 4 = .ok (.iload_n 1, 1) := by decide +kernel
theorem dX7_land_5 : decode cX7_land 5 = .ok (.aload_n 0, 1) := by decide +kernel
theorem dX7_land_6 : decode cX7_land 6 = .ok (.getfield 58, 3) := by decide +kernel
theorem dX7_land_9 : decode cX7_land 9 = .ok (.if_icmp .le 13, 3) := by decide +kernel
theorem dX7_land_12 : decode cX7_land 12 = .ok (.new 65, 3) := by decide +kernel
theorem dX7_land_15 : decode cX7_land 15 = .ok (.dup, 1) := by decide +kernel
theorem dX7_land_16 : decode cX7_land 16 = .ok (.ldc 67, 2) := by decide +kernel
theorem dX7_land_18 : decode cX7_land 18 = .ok (.invokespecial 69, 3) := by decide +kernel
theorem dX7_land_21 : decode cX7_land 21 = .ok (.athrow, 1) := by decide +kernel
theorem dX7_land_22 : decode cX7_land 22 = .ok (.aload_n 0, 1) := by decide +kernel
theorem dX7_land_23 : decode cX7_land 23 = .ok (.iconst 0, 1) := by decide +kernel
theorem dX7_land_24 : decode cX7_land 24 = .ok (.putfield 58, 3) := by decide +kernel
theorem dX7_land_27 : decode cX7_land 27 = .ok (.aload_n 0, 1) := by decide +kernel
theorem dX7_land_28 : decode cX7_land 28 = .ok (.getfield 28, 3) := by decide +kernel
theorem dX7_land_31 : decode cX7_land 31 = .ok (.iload_n 1, 1) := by decide +kernel
theorem dX7_land_32 : decode cX7_land 32 = .ok (.aload_n 0, 1) := by decide +kernel
theorem dX7_land_33 : decode cX7_land 33 = .ok (.getfield 20, 3) := by decide +kernel
theorem dX7_land_36 : decode cX7_land 36 = .ok (.invokevirtual 72, 3) := by decide +kernel
theorem dX7_land_39 : decode cX7_land 39 = .ok (.aload_n 0, 1) := by decide +kernel
theorem dX7_land_40 : decode cX7_land 40 = .ok (.aload_n 0, 1) := by decide +kernel
theorem dX7_land_41 : decode cX7_land 41 = .ok (.getfield 28, 3) := by decide +kernel
theorem dX7_land_44 : decode cX7_land 44 = .ok (.getfield 76, 3) := by decide +kernel
theorem dX7_land_47 : decode cX7_land 47 = .ok (.putfield 54, 3) := by decide +kernel
theorem dX7_land_50 : decode cX7_land 50 = .ok (.aload_n 0, 1) := by decide +kernel
theorem dX7_land_51 : decode cX7_land 51 = .ok (.getfield 28, 3) := by decide +kernel
theorem dX7_land_54 : decode cX7_land 54 = .ok (.getfield 79, 3) := by decide +kernel
theorem dX7_land_57 : decode cX7_land 57 = .ok (.ifCond .eq 24, 3) := by decide +kernel
theorem dX7_land_60 : decode cX7_land 60 = .ok (.aload_n 0, 1) := by decide +kernel
theorem dX7_land_61 : decode cX7_land 61 = .ok (.getfield 35, 3) := by decide +kernel
theorem dX7_land_64 : decode cX7_land 64 = .ok (.getfield 82, 3) := by decide +kernel
theorem dX7_land_67 : decode cX7_land 67 = .ok (.iconst 0, 1) := by decide +kernel
theorem dX7_land_68 : decode cX7_land 68 = .ok (.dup2, 1) := by decide +kernel
theorem dX7_land_69 : decode cX7_land 69 = .ok (.iaload, 1) := by decide +kernel
theorem dX7_land_70 : decode cX7_land 70 = .ok (.iconst 1, 1) := by decide +kernel
theorem dX7_land_71 : decode cX7_land 71 = .ok (.iadd, 1) := by decide +kernel
theorem dX7_land_72 : decode cX7_land 72 = .ok (.iastore, 1) := by decide +kernel
theorem dX7_land_73 : decode cX7_land 73 = .ok (.aload_n 0, 1) := by decide +kernel
theorem dX7_land_74 : decode cX7_land 74 = .ok (.getfield 28, 3) := by decide +kernel
theorem dX7_land_77 : decode cX7_land 77 = .ok (.getfield 79, 3) := by decide +kernel
theorem dX7_land_80 : decode cX7_land 80 = .ok (.ireturn, 1) := by decide +kernel
theorem dX7_land_81 : decode cX7_land 81 = .ok (.aload_n 0, 1) := by decide +kernel
theorem dX7_land_82 : decode cX7_land 82 = .ok (.getfield 16, 3) := by decide +kernel
theorem dX7_land_85 : decode cX7_land 85 = .ok (.astore_n 2, 1) := by decide +kernel
theorem dX7_land_86 : decode cX7_land 86 = .ok (.aload_n 0, 1) := by decide +kernel
theorem dX7_land_87 : decode cX7_land 87 = .ok (.aload_n 0, 1) := by decide +kernel
theorem dX7_land_88 : decode cX7_land 88 = .ok (.getfield 20, 3) := by decide +kernel
theorem dX7_land_91 : decode cX7_land 91 = .ok (.putfield 16, 3) := by decide +kernel
theorem dX7_land_94 : decode cX7_land 94 = .ok (.aload_n 0, 1) := by decide +kernel
theorem dX7_land_95 : decode cX7_land 95 = .ok (.aload_n 2, 1) := by decide +kernel
theorem dX7_land_96 : decode cX7_land 96 = .ok (.putfield 20, 3) := by decide +kernel
theorem dX7_land_99 : decode cX7_land 99 = .ok (.aload_n 0, 1) := by decide +kernel
theorem dX7_land_100 : decode cX7_land 100 = .ok (.getfield 35, 3) := by decide +kernel
theorem dX7_land_103 : decode cX7_land 103 = .ok (.aload_n 0, 1) := by decide +kernel
theorem dX7_land_104 : decode cX7_land 104 = .ok (.getfield 16, 3) := by decide +kernel
theorem dX7_land_107 : decode cX7_land 107 = .ok (.invokevirtual 86, 3) := by decide +kernel
theorem dX7_land_110 : decode cX7_land 110 = .ok (.aload_n 0, 1) := by decide +kernel
theorem dX7_land_111 : decode cX7_land 111 = .ok (.iconst 0, 1) := by decide +kernel
theorem dX7_land_112 : decode cX7_land 112 = .ok (.putfield 90, 3) := by decide +kernel
theorem dX7_land_115 : decode cX7_land 115 = .ok (.aload_n 0, 1) := by decide +kernel
theorem dX7_land_116 : decode cX7_land 116 = .ok (.iconst 0, 1) := by decide +kernel
theorem dX7_land_117 : decode cX7_land 117 = .ok (.putfield 94, 3) := by decide +kernel
theorem dX7_land_120 : decode cX7_land 120 = .ok (.iconst 0, 1) := by decide +kernel
theorem dX7_land_121 : decode cX7_land 121 = .ok (.ireturn, 1) := by decide +kernel
theorem dX7_fault_0 : decode cX7_fault 0 = .ok (.aload_n 0, 1) := by decide +kernel
theorem dX7_fault_1 : decode cX7_fault 1 = .ok (.getfield 54, 3) := by decide +kernel
theorem dX7_fault_4 : decode cX7_fault 4 = .ok (.ireturn, 1) := by decide +kernel
def f_X5_readTest_36 (rc : PMem → Mem → Int32 → Option (Mem))  (P : PMem) (I : Mem) (v1 : Int32) (s0 : Int32) : Option (Mem) :=
  if s0 = (-1 : Int32) then (some I) else ((f_X5_advance I).bind fun y1 =>
  (f_X5_readSum rc P y1 v1).bind fun y2 =>
  gd (decide ((P 5 0 0 4) < 2)) <|
  (f_X4_add (P 5 0 0 4) y2 s0).bind fun y3 =>
  some y3)
theorem b_X5_readTest_36 (X : CX) (Q : State → Prop) (rc : PMem → Mem → Int32 → Option (Mem)) (dr : Nat) (Hrc : ∀ {I : Mem} {P : PMem} {O : Nat → Int64} {D : Bool} {n : Nat} {v1 : Int32} {r : (Mem)}, rc P I v1 = some r → MethR yX5_readExpr cX5_readExpr 3 (none) dr [.inr (.inr (5, 0, 0)), .inl v1] I P O D n none r P O D n) {d : Nat} (hd : dr + 14 ≤ d) {I : Mem} {P : PMem} {O : Nat → Int64} {D : Bool} {n : Nat} {v1 : Int32} {s0 : Int32} {r : (Mem)}  (h : f_X5_readTest_36 rc P I v1 s0 = some r) (E : EndR X cX5_readTest RX5 3 (none) d n none r P O D Q) : Here X cX5_readTest RX5 3 (none) d n 36 [some (.inr (.inr (5, 0, 0))), some (.inl v1), none] [.inl s0] I P O D n Q := by
  unfold f_X5_readTest_36 at h
  refine h_istore_n dX5_readTest_36 (by decide) rfl ?_
  refine h_iload_n dX5_readTest_37 rfl ?_
  refine h_iconst (-1 : Int32) dX5_readTest_38 k_iconst_m1 ?_
  refine h_icmp_eq (tgt := 62) dX5_readTest_39 (by decide) (fun q1 => ?_) (fun q1 => ?_)
  · rw [if_pos q1] at h
    cases h
    exact h_vret dX5_readTest_62 rfl E
  · rw [if_neg q1] at h
    refine h_aload_n dX5_readTest_42 rfl ?_
    obtain ⟨y1, hh1, h⟩ := obd_some h
    refine h_cVv [] (m_X5_advance  hh1) cw_X5_43 dX5_readTest_43 rfl ok_5 (by omega) rfl (Or.inr rfl) rfl ?_
    refine h_aload_n dX5_readTest_46 rfl ?_
    refine h_iload_n dX5_readTest_47 rfl ?_
    obtain ⟨y2, hh2, h⟩ := obd_some h
    refine h_cVv [.inl v1] (m_X5_readSum (d := d - 1) rc dr Hrc (by omega)  hh2) cw_X5_194 dX5_readTest_48 rfl ok_5 (by omega) rfl (Or.inr rfl) rfl ?_
    refine h_aload_n dX5_readTest_51 rfl ?_
    refine g_X5_19  dX5_readTest_52 ?_
    obtain ⟨g1, h⟩ := gd_some h
    have w1 := of_decide_eq_true g1
    refine g_X5_160 (by omega) dX5_readTest_55 ?_
    refine h_iload_n dX5_readTest_58 rfl ?_
    obtain ⟨y3, hh3, h⟩ := obd_some h
    refine h_cVv [.inl s0] (m_X4_add (by omega) hh3) cw_X5_181 dX5_readTest_59 rfl (ok_4 (by omega)) (by omega) rfl (Or.inr rfl) rfl ?_
    cases h
    exact h_vret dX5_readTest_62 rfl E
def f_X5_readTest (rc : PMem → Mem → Int32 → Option (Mem))  (P : PMem) (I : Mem) (v1 : Int32) : Option (Mem) :=
  (f_X5_readSum rc P I v1).bind fun y1 =>
  (f_X5_isSign y1 (60 : Int32)).bind fun y2 =>
  if y2 = 0 then ((f_X5_isSign y1 (61 : Int32)).bind fun y3 =>
  if y3 = 0 then (f_X5_readTest_36 rc P y1 v1 (-1 : Int32)) else (f_X5_readTest_36 rc P y1 v1 (10009 : Int32))) else (f_X5_readTest_36 rc P y1 v1 (10008 : Int32))
theorem b_X5_readTest (X : CX) (Q : State → Prop) (rc : PMem → Mem → Int32 → Option (Mem)) (dr : Nat) (Hrc : ∀ {I : Mem} {P : PMem} {O : Nat → Int64} {D : Bool} {n : Nat} {v1 : Int32} {r : (Mem)}, rc P I v1 = some r → MethR yX5_readExpr cX5_readExpr 3 (none) dr [.inr (.inr (5, 0, 0)), .inl v1] I P O D n none r P O D n) {d : Nat} (hd : dr + 14 ≤ d) {I : Mem} {P : PMem} {O : Nat → Int64} {D : Bool} {n : Nat} {v1 : Int32} {r : (Mem)}  (h : f_X5_readTest rc P I v1 = some r) (E : EndR X cX5_readTest RX5 3 (none) d n none r P O D Q) : Here X cX5_readTest RX5 3 (none) d n 0 [some (.inr (.inr (5, 0, 0))), some (.inl v1), none] [] I P O D n Q := by
  unfold f_X5_readTest at h
  refine h_aload_n dX5_readTest_0 rfl ?_
  refine h_iload_n dX5_readTest_1 rfl ?_
  obtain ⟨y1, hh1, h⟩ := obd_some h
  refine h_cVv [.inl v1] (m_X5_readSum (d := d - 1) rc dr Hrc (by omega)  hh1) cw_X5_194 dX5_readTest_2 rfl ok_5 (by omega) rfl (Or.inr rfl) rfl ?_
  refine h_aload_n dX5_readTest_5 rfl ?_
  refine h_bipush (60 : Int32) dX5_readTest_6 k_bipush_60 ?_
  obtain ⟨y2, hh2, h⟩ := obd_some h
  refine h_cVi [.inl (60 : Int32)] (m_X5_isSign  hh2) cw_X5_172 dX5_readTest_8 rfl ok_5 (by omega) rfl (Or.inr rfl) rfl ?_
  refine h_if_eq (tgt := 20) dX5_readTest_11 (by decide) (fun q1 => ?_) (fun q1 => ?_)
  · rw [if_pos q1] at h
    refine h_aload_n dX5_readTest_20 rfl ?_
    refine h_bipush (61 : Int32) dX5_readTest_21 k_bipush_61 ?_
    obtain ⟨y3, hh3, h⟩ := obd_some h
    refine h_cVi [.inl (61 : Int32)] (m_X5_isSign  hh3) cw_X5_172 dX5_readTest_23 rfl ok_5 (by omega) rfl (Or.inr rfl) rfl ?_
    refine h_if_eq (tgt := 35) dX5_readTest_26 (by decide) (fun q2 => ?_) (fun q2 => ?_)
    · rw [if_pos q2] at h
      refine h_iconst (-1 : Int32) dX5_readTest_35 k_iconst_m1 ?_
      exact (b_X5_readTest_36 X Q rc dr Hrc hd  h E)
    · rw [if_neg q2] at h
      refine h_sipush (10009 : Int32) dX5_readTest_29 k_sipush_10009 ?_
      refine h_goto (tgt := 36) dX5_readTest_32 (by decide) ?_
      exact (b_X5_readTest_36 X Q rc dr Hrc hd  h E)
  · rw [if_neg q1] at h
    refine h_sipush (10008 : Int32) dX5_readTest_14 k_sipush_10008 ?_
    refine h_goto (tgt := 36) dX5_readTest_17 (by decide) ?_
    exact (b_X5_readTest_36 X Q rc dr Hrc hd  h E)
theorem m_X5_readTest (rc : PMem → Mem → Int32 → Option (Mem)) (dr : Nat) (Hrc : ∀ {I : Mem} {P : PMem} {O : Nat → Int64} {D : Bool} {n : Nat} {v1 : Int32} {r : (Mem)}, rc P I v1 = some r → MethR yX5_readExpr cX5_readExpr 3 (none) dr [.inr (.inr (5, 0, 0)), .inl v1] I P O D n none r P O D n) {d : Nat} (hd : dr + 14 ≤ d) {I : Mem} {P : PMem} {O : Nat → Int64} {D : Bool} {n : Nat} {v1 : Int32} {r : (Mem)}  (h : f_X5_readTest rc P I v1 = some r) : MethR yX5_readTest cX5_readTest 3 (none) d [.inr (.inr (5, 0, 0)), .inl v1] I P O D n none r P O D n := meth_R (Nat.le_refl _) (by decide) rfl (Nat.le_of_ble_eq_true rfl) rfl (fun X Q E => b_X5_readTest X Q rc dr Hrc hd  h E)
def f_X5_readNot_45 (rc : PMem → Mem → Int32 → Option (Mem))  (P : PMem) : Nat → Mem → Int32 → Int32 → Option (Mem)
  | 0, _, _, _ => none
  | fu + 1, I, v2, v3 =>
    if v2 ≤ v3 then (some I) else (gd (decide ((P 5 0 0 4) < 2)) <|
    (f_X4_add (P 5 0 0 4) I (10007 : Int32)).bind fun y1 =>
    (f_X5_readNot_45 rc P fu) y1 v2 (v3 + (1 : Int32)))
theorem b_X5_readNot_45 (X : CX) (Q : State → Prop) (rc : PMem → Mem → Int32 → Option (Mem)) (dr : Nat) (Hrc : ∀ {I : Mem} {P : PMem} {O : Nat → Int64} {D : Bool} {n : Nat} {v1 : Int32} {r : (Mem)}, rc P I v1 = some r → MethR yX5_readExpr cX5_readExpr 3 (none) dr [.inr (.inr (5, 0, 0)), .inl v1] I P O D n none r P O D n) {d : Nat} (hd : dr + 15 ≤ d) {P : PMem} {O : Nat → Int64} {D : Bool} {n : Nat} {r : (Mem)}  : ∀ (fu : Nat) {I : Mem} {v2 : Int32} {v3 : Int32}, f_X5_readNot_45 rc P fu I v2 v3 = some r → EndR X cX5_readNot RX5 4 (none) d n none r P O D Q → Here X cX5_readNot RX5 4 (none) d n 45 [some (.inr (.inr (5, 0, 0))), none, some (.inl v2), some (.inl v3)] [] I P O D n Q := by
  intro fu
  induction fu with
  | zero => intro I v2 v3 h E; cases h
  | succ fu ih =>
  intro I v2 v3 h E
  have H45 : ∀ (I : Mem) (v2 : Int32) (v3 : Int32), f_X5_readNot_45 rc P fu I v2 v3 = some r → Here X cX5_readNot RX5 4 (none) d n 45 [some (.inr (.inr (5, 0, 0))), none, some (.inl v2), some (.inl v3)] [] I P O D n Q := fun _ _ _ b => ih b E
  simp only [f_X5_readNot_45] at h
  refine h_iload_n dX5_readNot_45 rfl ?_
  refine h_iload_n dX5_readNot_46 rfl ?_
  refine h_icmp_ge (tgt := 69) dX5_readNot_47 (by decide) (fun q1 => ?_) (fun q1 => ?_)
  · rw [if_pos q1] at h
    cases h
    exact h_vret dX5_readNot_69 rfl E
  · rw [if_neg q1] at h
    refine h_aload_n dX5_readNot_50 rfl ?_
    refine g_X5_19  dX5_readNot_51 ?_
    obtain ⟨g1, h⟩ := gd_some h
    have w1 := of_decide_eq_true g1
    refine g_X5_160 (by omega) dX5_readNot_54 ?_
    refine h_sipush (10007 : Int32) dX5_readNot_57 k_sipush_10007 ?_
    obtain ⟨y1, hh1, h⟩ := obd_some h
    refine h_cVv [.inl (10007 : Int32)] (m_X4_add (by omega) hh1) cw_X5_181 dX5_readNot_60 rfl (ok_4 (by omega)) (by omega) rfl (Or.inr rfl) rfl ?_
    refine h_iinc (1 : Int32) dX5_readNot_63 rfl k_iinc_1 (by decide) rfl ?_
    refine h_goto (tgt := 45) dX5_readNot_66 (by decide) ?_
    exact (H45 _ _ _ h)
def f_X5_readNot_38 (rc : PMem → Mem → Int32 → Option (Mem))  (P : PMem) (I : Mem) (v1 : Int32) (v2 : Int32) : Option (Mem) :=
  (f_X5_readTest rc P I v1).bind fun y1 =>
  f_X5_readNot_45 rc P FU y1 v2 (0 : Int32)
theorem b_X5_readNot_38 (X : CX) (Q : State → Prop) (rc : PMem → Mem → Int32 → Option (Mem)) (dr : Nat) (Hrc : ∀ {I : Mem} {P : PMem} {O : Nat → Int64} {D : Bool} {n : Nat} {v1 : Int32} {r : (Mem)}, rc P I v1 = some r → MethR yX5_readExpr cX5_readExpr 3 (none) dr [.inr (.inr (5, 0, 0)), .inl v1] I P O D n none r P O D n) {d : Nat} (hd : dr + 15 ≤ d) {I : Mem} {P : PMem} {O : Nat → Int64} {D : Bool} {n : Nat} {v1 : Int32} {v2 : Int32} {r : (Mem)}  (h : f_X5_readNot_38 rc P I v1 v2 = some r) (E : EndR X cX5_readNot RX5 4 (none) d n none r P O D Q) : Here X cX5_readNot RX5 4 (none) d n 38 [some (.inr (.inr (5, 0, 0))), some (.inl v1), some (.inl v2), none] [] I P O D n Q := by
  unfold f_X5_readNot_38 at h
  refine h_aload_n dX5_readNot_38 rfl ?_
  refine h_iload_n dX5_readNot_39 rfl ?_
  obtain ⟨y1, hh1, h⟩ := obd_some h
  refine h_cVv [.inl v1] (m_X5_readTest (d := d - 1) rc dr Hrc (by omega)  hh1) cw_X5_191 dX5_readNot_40 rfl ok_5 (by omega) rfl (Or.inr rfl) rfl ?_
  refine h_iconst (0 : Int32) dX5_readNot_43 k_iconst_0 ?_
  refine h_istore_n dX5_readNot_44 (by decide) rfl ?_
  exact h_mask [true, false, true, true] (b_X5_readNot_45 X Q rc dr Hrc hd FU  h E)
def f_X5_readNot_28 (rc : PMem → Mem → Int32 → Option (Mem)) (k2 : Mem → Int32 → Int32 → Option (Mem)) (P : PMem) (I : Mem) (v1 : Int32) (v2 : Int32) : Option (Mem) :=
  (f_X5_advance I).bind fun y1 =>
  k2 y1 v1 (v2 + (1 : Int32))
theorem b_X5_readNot_28 (X : CX) (Q : State → Prop) (rc : PMem → Mem → Int32 → Option (Mem)) (dr : Nat) (Hrc : ∀ {I : Mem} {P : PMem} {O : Nat → Int64} {D : Bool} {n : Nat} {v1 : Int32} {r : (Mem)}, rc P I v1 = some r → MethR yX5_readExpr cX5_readExpr 3 (none) dr [.inr (.inr (5, 0, 0)), .inl v1] I P O D n none r P O D n) {d : Nat} (hd : dr + 15 ≤ d) {I : Mem} {P : PMem} {O : Nat → Int64} {D : Bool} {n : Nat} {k2 : Mem → Int32 → Int32 → Option (Mem)} {v1 : Int32} {v2 : Int32} {r : (Mem)}  (H2 : ∀ (I : Mem) (v1 : Int32) (v2 : Int32), k2 I v1 v2 = some r → Here X cX5_readNot RX5 4 (none) d n 2 [some (.inr (.inr (5, 0, 0))), some (.inl v1), some (.inl v2), none] [] I P O D n Q) (h : f_X5_readNot_28 rc k2 P I v1 v2 = some r) (E : EndR X cX5_readNot RX5 4 (none) d n none r P O D Q) : Here X cX5_readNot RX5 4 (none) d n 28 [some (.inr (.inr (5, 0, 0))), some (.inl v1), some (.inl v2), none] [] I P O D n Q := by
  unfold f_X5_readNot_28 at h
  refine h_aload_n dX5_readNot_28 rfl ?_
  obtain ⟨y1, hh1, h⟩ := obd_some h
  refine h_cVv [] (m_X5_advance  hh1) cw_X5_43 dX5_readNot_29 rfl ok_5 (by omega) rfl (Or.inr rfl) rfl ?_
  refine h_iinc (1 : Int32) dX5_readNot_32 rfl k_iinc_1 (by decide) rfl ?_
  refine h_goto (tgt := 2) dX5_readNot_35 (by decide) ?_
  exact (H2 _ _ _ h)
def f_X5_readNot_2 (rc : PMem → Mem → Int32 → Option (Mem))  (P : PMem) : Nat → Mem → Int32 → Int32 → Option (Mem)
  | 0, _, _, _ => none
  | fu + 1, I, v1, v2 =>
    if (6 : Int32) < v2 then (f_X5_readNot_38 rc P I v1 v2) else ((f_X5_isWord I 20).bind fun y1 =>
    if y1 = 0 then (f_X5_readNot_38 rc P I v1 v2) else (if v2 = (6 : Int32) then ((f_X5_refuse I (2 : Int32)).bind fun y2 =>
    f_X5_readNot_28 rc (f_X5_readNot_2 rc P fu) P y2 v1 v2) else (f_X5_readNot_28 rc (f_X5_readNot_2 rc P fu) P I v1 v2)))
theorem b_X5_readNot_2 (X : CX) (Q : State → Prop) (rc : PMem → Mem → Int32 → Option (Mem)) (dr : Nat) (Hrc : ∀ {I : Mem} {P : PMem} {O : Nat → Int64} {D : Bool} {n : Nat} {v1 : Int32} {r : (Mem)}, rc P I v1 = some r → MethR yX5_readExpr cX5_readExpr 3 (none) dr [.inr (.inr (5, 0, 0)), .inl v1] I P O D n none r P O D n) {d : Nat} (hd : dr + 15 ≤ d) {P : PMem} {O : Nat → Int64} {D : Bool} {n : Nat} {r : (Mem)}  : ∀ (fu : Nat) {I : Mem} {v1 : Int32} {v2 : Int32}, f_X5_readNot_2 rc P fu I v1 v2 = some r → EndR X cX5_readNot RX5 4 (none) d n none r P O D Q → Here X cX5_readNot RX5 4 (none) d n 2 [some (.inr (.inr (5, 0, 0))), some (.inl v1), some (.inl v2), none] [] I P O D n Q := by
  intro fu
  induction fu with
  | zero => intro I v1 v2 h E; cases h
  | succ fu ih =>
  intro I v1 v2 h E
  have H2 : ∀ (I : Mem) (v1 : Int32) (v2 : Int32), f_X5_readNot_2 rc P fu I v1 v2 = some r → Here X cX5_readNot RX5 4 (none) d n 2 [some (.inr (.inr (5, 0, 0))), some (.inl v1), some (.inl v2), none] [] I P O D n Q := fun _ _ _ b => ih b E
  simp only [f_X5_readNot_2] at h
  refine h_iload_n dX5_readNot_2 rfl ?_
  refine h_bipush (6 : Int32) dX5_readNot_3 k_bipush_6 ?_
  refine h_icmp_gt (tgt := 38) dX5_readNot_5 (by decide) (fun q1 => ?_) (fun q1 => ?_)
  · rw [if_pos q1] at h
    exact (b_X5_readNot_38 X Q rc dr Hrc hd  h E)
  · rw [if_neg q1] at h
    refine h_aload_n dX5_readNot_8 rfl ?_
    refine h_ldcs (text := "not") (j := 20) dX5_readNot_9 (by decide) ?_
    obtain ⟨y1, hh1, h⟩ := obd_some h
    refine h_cVi [.inr (.inr (90, 20, 0))] (m_X5_isWord (by decide) hh1) cw_X5_57 dX5_readNot_11 rfl ok_5 (by omega) rfl (Or.inr rfl) rfl ?_
    refine h_if_eq (tgt := 38) dX5_readNot_14 (by decide) (fun q2 => ?_) (fun q2 => ?_)
    · rw [if_pos q2] at h
      exact (b_X5_readNot_38 X Q rc dr Hrc hd  h E)
    · rw [if_neg q2] at h
      refine h_iload_n dX5_readNot_17 rfl ?_
      refine h_bipush (6 : Int32) dX5_readNot_18 k_bipush_6 ?_
      refine h_icmp_ne (tgt := 28) dX5_readNot_20 (by decide) (fun q3 => ?_) (fun q3 => ?_)
      · rw [if_neg q3] at h
        exact (b_X5_readNot_28 X Q rc dr Hrc hd H2  h E)
      · rw [if_pos q3] at h
        refine h_aload_n dX5_readNot_23 rfl ?_
        refine h_iconst (2 : Int32) dX5_readNot_24 k_iconst_2 ?_
        obtain ⟨y2, hh2, h⟩ := obd_some h
        refine h_cVv [.inl (2 : Int32)] (m_X5_refuse  hh2) cw_X5_94 dX5_readNot_25 rfl ok_5 (by omega) rfl (Or.inr rfl) rfl ?_
        exact (b_X5_readNot_28 X Q rc dr Hrc hd H2  h E)
def f_X5_readNot (rc : PMem → Mem → Int32 → Option (Mem))  (P : PMem) (I : Mem) (v1 : Int32) : Option (Mem) :=
  f_X5_readNot_2 rc P FU I v1 (0 : Int32)
theorem b_X5_readNot (X : CX) (Q : State → Prop) (rc : PMem → Mem → Int32 → Option (Mem)) (dr : Nat) (Hrc : ∀ {I : Mem} {P : PMem} {O : Nat → Int64} {D : Bool} {n : Nat} {v1 : Int32} {r : (Mem)}, rc P I v1 = some r → MethR yX5_readExpr cX5_readExpr 3 (none) dr [.inr (.inr (5, 0, 0)), .inl v1] I P O D n none r P O D n) {d : Nat} (hd : dr + 15 ≤ d) {I : Mem} {P : PMem} {O : Nat → Int64} {D : Bool} {n : Nat} {v1 : Int32} {r : (Mem)}  (h : f_X5_readNot rc P I v1 = some r) (E : EndR X cX5_readNot RX5 4 (none) d n none r P O D Q) : Here X cX5_readNot RX5 4 (none) d n 0 [some (.inr (.inr (5, 0, 0))), some (.inl v1), none, none] [] I P O D n Q := by
  unfold f_X5_readNot at h
  refine h_iconst (0 : Int32) dX5_readNot_0 k_iconst_0 ?_
  refine h_istore_n dX5_readNot_1 (by decide) rfl ?_
  exact (b_X5_readNot_2 X Q rc dr Hrc hd FU  h E)
theorem m_X5_readNot (rc : PMem → Mem → Int32 → Option (Mem)) (dr : Nat) (Hrc : ∀ {I : Mem} {P : PMem} {O : Nat → Int64} {D : Bool} {n : Nat} {v1 : Int32} {r : (Mem)}, rc P I v1 = some r → MethR yX5_readExpr cX5_readExpr 3 (none) dr [.inr (.inr (5, 0, 0)), .inl v1] I P O D n none r P O D n) {d : Nat} (hd : dr + 15 ≤ d) {I : Mem} {P : PMem} {O : Nat → Int64} {D : Bool} {n : Nat} {v1 : Int32} {r : (Mem)}  (h : f_X5_readNot rc P I v1 = some r) : MethR yX5_readNot cX5_readNot 4 (none) d [.inr (.inr (5, 0, 0)), .inl v1] I P O D n none r P O D n := meth_R (Nat.le_refl _) (by decide) rfl (Nat.le_of_ble_eq_true rfl) rfl (fun X Q E => b_X5_readNot X Q rc dr Hrc hd  h E)
def f_X5_readAnd_7 (rc : PMem → Mem → Int32 → Option (Mem))  (P : PMem) : Nat → Mem → Int32 → Int32 → Option (Mem)
  | 0, _, _, _ => none
  | fu + 1, I, v1, v2 =>
    if (600 : Int32) ≤ v2 then (some I) else ((f_X5_isWord I 8).bind fun y1 =>
    if y1 = 0 then (some I) else ((f_X5_advance I).bind fun y2 =>
    (f_X5_readNot rc P y2 v1).bind fun y3 =>
    gd (decide ((P 5 0 0 4) < 2)) <|
    (f_X4_add (P 5 0 0 4) y3 (10006 : Int32)).bind fun y4 =>
    (f_X5_readAnd_7 rc P fu) y4 v1 (v2 + (1 : Int32))))
theorem b_X5_readAnd_7 (X : CX) (Q : State → Prop) (rc : PMem → Mem → Int32 → Option (Mem)) (dr : Nat) (Hrc : ∀ {I : Mem} {P : PMem} {O : Nat → Int64} {D : Bool} {n : Nat} {v1 : Int32} {r : (Mem)}, rc P I v1 = some r → MethR yX5_readExpr cX5_readExpr 3 (none) dr [.inr (.inr (5, 0, 0)), .inl v1] I P O D n none r P O D n) {d : Nat} (hd : dr + 16 ≤ d) {P : PMem} {O : Nat → Int64} {D : Bool} {n : Nat} {r : (Mem)}  : ∀ (fu : Nat) {I : Mem} {v1 : Int32} {v2 : Int32}, f_X5_readAnd_7 rc P fu I v1 v2 = some r → EndR X cX5_readAnd RX5 3 (none) d n none r P O D Q → Here X cX5_readAnd RX5 3 (none) d n 7 [some (.inr (.inr (5, 0, 0))), some (.inl v1), some (.inl v2)] [] I P O D n Q := by
  intro fu
  induction fu with
  | zero => intro I v1 v2 h E; cases h
  | succ fu ih =>
  intro I v1 v2 h E
  have H7 : ∀ (I : Mem) (v1 : Int32) (v2 : Int32), f_X5_readAnd_7 rc P fu I v1 v2 = some r → Here X cX5_readAnd RX5 3 (none) d n 7 [some (.inr (.inr (5, 0, 0))), some (.inl v1), some (.inl v2)] [] I P O D n Q := fun _ _ _ b => ih b E
  simp only [f_X5_readAnd_7] at h
  refine h_iload_n dX5_readAnd_7 rfl ?_
  refine h_sipush (600 : Int32) dX5_readAnd_8 k_sipush_600 ?_
  refine h_icmp_ge (tgt := 51) dX5_readAnd_11 (by decide) (fun q1 => ?_) (fun q1 => ?_)
  · rw [if_pos q1] at h
    cases h
    exact h_vret dX5_readAnd_51 rfl E
  · rw [if_neg q1] at h
    refine h_aload_n dX5_readAnd_14 rfl ?_
    refine h_ldcs (text := "and") (j := 8) dX5_readAnd_15 (by decide) ?_
    obtain ⟨y1, hh1, h⟩ := obd_some h
    refine h_cVi [.inr (.inr (90, 8, 0))] (m_X5_isWord (by decide) hh1) cw_X5_57 dX5_readAnd_17 rfl ok_5 (by omega) rfl (Or.inr rfl) rfl ?_
    refine h_if_eq (tgt := 51) dX5_readAnd_20 (by decide) (fun q2 => ?_) (fun q2 => ?_)
    · rw [if_pos q2] at h
      cases h
      exact h_vret dX5_readAnd_51 rfl E
    · rw [if_neg q2] at h
      refine h_aload_n dX5_readAnd_23 rfl ?_
      obtain ⟨y2, hh2, h⟩ := obd_some h
      refine h_cVv [] (m_X5_advance  hh2) cw_X5_43 dX5_readAnd_24 rfl ok_5 (by omega) rfl (Or.inr rfl) rfl ?_
      refine h_aload_n dX5_readAnd_27 rfl ?_
      refine h_iload_n dX5_readAnd_28 rfl ?_
      obtain ⟨y3, hh3, h⟩ := obd_some h
      refine h_cVv [.inl v1] (m_X5_readNot (d := d - 1) rc dr Hrc (by omega)  hh3) cw_X5_184 dX5_readAnd_29 rfl ok_5 (by omega) rfl (Or.inr rfl) rfl ?_
      refine h_aload_n dX5_readAnd_32 rfl ?_
      refine g_X5_19  dX5_readAnd_33 ?_
      obtain ⟨g1, h⟩ := gd_some h
      have w1 := of_decide_eq_true g1
      refine g_X5_160 (by omega) dX5_readAnd_36 ?_
      refine h_sipush (10006 : Int32) dX5_readAnd_39 k_sipush_10006 ?_
      obtain ⟨y4, hh4, h⟩ := obd_some h
      refine h_cVv [.inl (10006 : Int32)] (m_X4_add (by omega) hh4) cw_X5_181 dX5_readAnd_42 rfl (ok_4 (by omega)) (by omega) rfl (Or.inr rfl) rfl ?_
      refine h_iinc (1 : Int32) dX5_readAnd_45 rfl k_iinc_1 (by decide) rfl ?_
      refine h_goto (tgt := 7) dX5_readAnd_48 (by decide) ?_
      exact (H7 _ _ _ h)
def f_X5_readAnd (rc : PMem → Mem → Int32 → Option (Mem))  (P : PMem) (I : Mem) (v1 : Int32) : Option (Mem) :=
  (f_X5_readNot rc P I v1).bind fun y1 =>
  f_X5_readAnd_7 rc P FU y1 v1 (0 : Int32)
theorem b_X5_readAnd (X : CX) (Q : State → Prop) (rc : PMem → Mem → Int32 → Option (Mem)) (dr : Nat) (Hrc : ∀ {I : Mem} {P : PMem} {O : Nat → Int64} {D : Bool} {n : Nat} {v1 : Int32} {r : (Mem)}, rc P I v1 = some r → MethR yX5_readExpr cX5_readExpr 3 (none) dr [.inr (.inr (5, 0, 0)), .inl v1] I P O D n none r P O D n) {d : Nat} (hd : dr + 16 ≤ d) {I : Mem} {P : PMem} {O : Nat → Int64} {D : Bool} {n : Nat} {v1 : Int32} {r : (Mem)}  (h : f_X5_readAnd rc P I v1 = some r) (E : EndR X cX5_readAnd RX5 3 (none) d n none r P O D Q) : Here X cX5_readAnd RX5 3 (none) d n 0 [some (.inr (.inr (5, 0, 0))), some (.inl v1), none] [] I P O D n Q := by
  unfold f_X5_readAnd at h
  refine h_aload_n dX5_readAnd_0 rfl ?_
  refine h_iload_n dX5_readAnd_1 rfl ?_
  obtain ⟨y1, hh1, h⟩ := obd_some h
  refine h_cVv [.inl v1] (m_X5_readNot (d := d - 1) rc dr Hrc (by omega)  hh1) cw_X5_184 dX5_readAnd_2 rfl ok_5 (by omega) rfl (Or.inr rfl) rfl ?_
  refine h_iconst (0 : Int32) dX5_readAnd_5 k_iconst_0 ?_
  refine h_istore_n dX5_readAnd_6 (by decide) rfl ?_
  exact (b_X5_readAnd_7 X Q rc dr Hrc hd FU  h E)
theorem m_X5_readAnd (rc : PMem → Mem → Int32 → Option (Mem)) (dr : Nat) (Hrc : ∀ {I : Mem} {P : PMem} {O : Nat → Int64} {D : Bool} {n : Nat} {v1 : Int32} {r : (Mem)}, rc P I v1 = some r → MethR yX5_readExpr cX5_readExpr 3 (none) dr [.inr (.inr (5, 0, 0)), .inl v1] I P O D n none r P O D n) {d : Nat} (hd : dr + 16 ≤ d) {I : Mem} {P : PMem} {O : Nat → Int64} {D : Bool} {n : Nat} {v1 : Int32} {r : (Mem)}  (h : f_X5_readAnd rc P I v1 = some r) : MethR yX5_readAnd cX5_readAnd 3 (none) d [.inr (.inr (5, 0, 0)), .inl v1] I P O D n none r P O D n := meth_R (Nat.le_refl _) (by decide) rfl (Nat.le_of_ble_eq_true rfl) rfl (fun X Q E => b_X5_readAnd X Q rc dr Hrc hd  h E)
def f_X5_readExpr_48 (rc : PMem → Mem → Int32 → Option (Mem))  (P : PMem) : Nat → Mem → Int32 → Int32 → Option (Mem)
  | 0, _, _, _ => none
  | fu + 1, I, v1, v2 =>
    if (600 : Int32) ≤ v2 then (some I) else ((f_X5_isWord I 22).bind fun y1 =>
    if y1 = 0 then (some I) else ((f_X5_advance I).bind fun y2 =>
    (f_X5_readAnd rc P y2 v1).bind fun y3 =>
    gd (decide ((P 5 0 0 4) < 2)) <|
    (f_X4_add (P 5 0 0 4) y3 (10005 : Int32)).bind fun y4 =>
    (f_X5_readExpr_48 rc P fu) y4 v1 (v2 + (1 : Int32))))
theorem b_X5_readExpr_48 (X : CX) (Q : State → Prop) (rc : PMem → Mem → Int32 → Option (Mem)) (dr : Nat) (Hrc : ∀ {I : Mem} {P : PMem} {O : Nat → Int64} {D : Bool} {n : Nat} {v1 : Int32} {r : (Mem)}, rc P I v1 = some r → MethR yX5_readExpr cX5_readExpr 3 (none) dr [.inr (.inr (5, 0, 0)), .inl v1] I P O D n none r P O D n) {d : Nat} (hd : dr + 17 ≤ d) {P : PMem} {O : Nat → Int64} {D : Bool} {n : Nat} {r : (Mem)}  : ∀ (fu : Nat) {I : Mem} {v1 : Int32} {v2 : Int32}, f_X5_readExpr_48 rc P fu I v1 v2 = some r → EndR X cX5_readExpr RX5 3 (none) d n none r P O D Q → Here X cX5_readExpr RX5 3 (none) d n 48 [some (.inr (.inr (5, 0, 0))), some (.inl v1), some (.inl v2)] [] I P O D n Q := by
  intro fu
  induction fu with
  | zero => intro I v1 v2 h E; cases h
  | succ fu ih =>
  intro I v1 v2 h E
  have H48 : ∀ (I : Mem) (v1 : Int32) (v2 : Int32), f_X5_readExpr_48 rc P fu I v1 v2 = some r → Here X cX5_readExpr RX5 3 (none) d n 48 [some (.inr (.inr (5, 0, 0))), some (.inl v1), some (.inl v2)] [] I P O D n Q := fun _ _ _ b => ih b E
  simp only [f_X5_readExpr_48] at h
  refine h_iload_n dX5_readExpr_48 rfl ?_
  refine h_sipush (600 : Int32) dX5_readExpr_49 k_sipush_600 ?_
  refine h_icmp_ge (tgt := 92) dX5_readExpr_52 (by decide) (fun q1 => ?_) (fun q1 => ?_)
  · rw [if_pos q1] at h
    cases h
    exact h_vret dX5_readExpr_92 rfl E
  · rw [if_neg q1] at h
    refine h_aload_n dX5_readExpr_55 rfl ?_
    refine h_ldcs (text := "or") (j := 22) dX5_readExpr_56 (by decide) ?_
    obtain ⟨y1, hh1, h⟩ := obd_some h
    refine h_cVi [.inr (.inr (90, 22, 0))] (m_X5_isWord (by decide) hh1) cw_X5_57 dX5_readExpr_58 rfl ok_5 (by omega) rfl (Or.inr rfl) rfl ?_
    refine h_if_eq (tgt := 92) dX5_readExpr_61 (by decide) (fun q2 => ?_) (fun q2 => ?_)
    · rw [if_pos q2] at h
      cases h
      exact h_vret dX5_readExpr_92 rfl E
    · rw [if_neg q2] at h
      refine h_aload_n dX5_readExpr_64 rfl ?_
      obtain ⟨y2, hh2, h⟩ := obd_some h
      refine h_cVv [] (m_X5_advance  hh2) cw_X5_43 dX5_readExpr_65 rfl ok_5 (by omega) rfl (Or.inr rfl) rfl ?_
      refine h_aload_n dX5_readExpr_68 rfl ?_
      refine h_iload_n dX5_readExpr_69 rfl ?_
      obtain ⟨y3, hh3, h⟩ := obd_some h
      refine h_cVv [.inl v1] (m_X5_readAnd (d := d - 1) rc dr Hrc (by omega)  hh3) cw_X5_176 dX5_readExpr_70 rfl ok_5 (by omega) rfl (Or.inr rfl) rfl ?_
      refine h_aload_n dX5_readExpr_73 rfl ?_
      refine g_X5_19  dX5_readExpr_74 ?_
      obtain ⟨g1, h⟩ := gd_some h
      have w1 := of_decide_eq_true g1
      refine g_X5_160 (by omega) dX5_readExpr_77 ?_
      refine h_sipush (10005 : Int32) dX5_readExpr_80 k_sipush_10005 ?_
      obtain ⟨y4, hh4, h⟩ := obd_some h
      refine h_cVv [.inl (10005 : Int32)] (m_X4_add (by omega) hh4) cw_X5_181 dX5_readExpr_83 rfl (ok_4 (by omega)) (by omega) rfl (Or.inr rfl) rfl ?_
      refine h_iinc (1 : Int32) dX5_readExpr_86 rfl k_iinc_1 (by decide) rfl ?_
      refine h_goto (tgt := 48) dX5_readExpr_89 (by decide) ?_
      exact (H48 _ _ _ h)
def f_X5_readExpr_37 (rc : PMem → Mem → Int32 → Option (Mem))  (P : PMem) (I : Mem) (s0 : Int32) : Option (Mem) :=
  (f_X5_refuse I s0).bind fun y1 =>
  some y1
theorem b_X5_readExpr_37 (X : CX) (Q : State → Prop) (rc : PMem → Mem → Int32 → Option (Mem)) (dr : Nat) (Hrc : ∀ {I : Mem} {P : PMem} {O : Nat → Int64} {D : Bool} {n : Nat} {v1 : Int32} {r : (Mem)}, rc P I v1 = some r → MethR yX5_readExpr cX5_readExpr 3 (none) dr [.inr (.inr (5, 0, 0)), .inl v1] I P O D n none r P O D n) {d : Nat} (hd : dr + 17 ≤ d) {I : Mem} {P : PMem} {O : Nat → Int64} {D : Bool} {n : Nat} {s0 : Int32} {r : (Mem)}  (h : f_X5_readExpr_37 rc P I s0 = some r) (E : EndR X cX5_readExpr RX5 3 (none) d n none r P O D Q) : Here X cX5_readExpr RX5 3 (none) d n 37 [none, none, none] [.inl s0, .inr (.inr (5, 0, 0))] I P O D n Q := by
  unfold f_X5_readExpr_37 at h
  obtain ⟨y1, hh1, h⟩ := obd_some h
  refine h_cVv [.inl s0] (m_X5_refuse  hh1) cw_X5_94 dX5_readExpr_37 rfl ok_5 (by omega) rfl (Or.inr rfl) rfl ?_
  cases h
  exact h_vret dX5_readExpr_40 rfl E
def f_X5_readExpr_32 (rc : PMem → Mem → Int32 → Option (Mem))  (P : PMem) (I : Mem) : Option (Mem) :=
  f_X5_readExpr_37 rc P I (2 : Int32)
theorem b_X5_readExpr_32 (X : CX) (Q : State → Prop) (rc : PMem → Mem → Int32 → Option (Mem)) (dr : Nat) (Hrc : ∀ {I : Mem} {P : PMem} {O : Nat → Int64} {D : Bool} {n : Nat} {v1 : Int32} {r : (Mem)}, rc P I v1 = some r → MethR yX5_readExpr cX5_readExpr 3 (none) dr [.inr (.inr (5, 0, 0)), .inl v1] I P O D n none r P O D n) {d : Nat} (hd : dr + 17 ≤ d) {I : Mem} {P : PMem} {O : Nat → Int64} {D : Bool} {n : Nat} {r : (Mem)}  (h : f_X5_readExpr_32 rc P I = some r) (E : EndR X cX5_readExpr RX5 3 (none) d n none r P O D Q) : Here X cX5_readExpr RX5 3 (none) d n 32 [none, none, none] [.inr (.inr (5, 0, 0))] I P O D n Q := by
  unfold f_X5_readExpr_32 at h
  refine h_iconst (2 : Int32) dX5_readExpr_32 k_iconst_2 ?_
  refine h_goto (tgt := 37) dX5_readExpr_33 (by decide) ?_
  exact (b_X5_readExpr_37 X Q rc dr Hrc hd  h E)
def f_X5_readExpr (rc : PMem → Mem → Int32 → Option (Mem))  (P : PMem) (I : Mem) (v1 : Int32) : Option (Mem) :=
  if v1 < (6 : Int32) then ((f_X5_readAnd rc P I v1).bind fun y1 =>
  f_X5_readExpr_48 rc P FU y1 v1 (0 : Int32)) else (if (I 5 0 0 5) = (2 : Int32) then (f_X5_readExpr_32 rc P I) else (if (I 5 0 0 5) = (1 : Int32) then (f_X5_readExpr_32 rc P I) else ((f_X5_isSign I (40 : Int32)).bind fun y2 =>
  if y2 = 0 then (f_X5_readExpr_37 rc P I (1 : Int32)) else (f_X5_readExpr_32 rc P I))))
theorem b_X5_readExpr (X : CX) (Q : State → Prop) (rc : PMem → Mem → Int32 → Option (Mem)) (dr : Nat) (Hrc : ∀ {I : Mem} {P : PMem} {O : Nat → Int64} {D : Bool} {n : Nat} {v1 : Int32} {r : (Mem)}, rc P I v1 = some r → MethR yX5_readExpr cX5_readExpr 3 (none) dr [.inr (.inr (5, 0, 0)), .inl v1] I P O D n none r P O D n) {d : Nat} (hd : dr + 17 ≤ d) {I : Mem} {P : PMem} {O : Nat → Int64} {D : Bool} {n : Nat} {v1 : Int32} {r : (Mem)}  (h : f_X5_readExpr rc P I v1 = some r) (E : EndR X cX5_readExpr RX5 3 (none) d n none r P O D Q) : Here X cX5_readExpr RX5 3 (none) d n 0 [some (.inr (.inr (5, 0, 0))), some (.inl v1), none] [] I P O D n Q := by
  unfold f_X5_readExpr at h
  refine h_iload_n dX5_readExpr_0 rfl ?_
  refine h_bipush (6 : Int32) dX5_readExpr_1 k_bipush_6 ?_
  refine h_icmp_lt (tgt := 41) dX5_readExpr_3 (by decide) (fun q1 => ?_) (fun q1 => ?_)
  · rw [if_pos q1] at h
    refine h_aload_n dX5_readExpr_41 rfl ?_
    refine h_iload_n dX5_readExpr_42 rfl ?_
    obtain ⟨y1, hh1, h⟩ := obd_some h
    refine h_cVv [.inl v1] (m_X5_readAnd (d := d - 1) rc dr Hrc (by omega)  hh1) cw_X5_176 dX5_readExpr_43 rfl ok_5 (by omega) rfl (Or.inr rfl) rfl ?_
    refine h_iconst (0 : Int32) dX5_readExpr_46 k_iconst_0 ?_
    refine h_istore_n dX5_readExpr_47 (by decide) rfl ?_
    exact (b_X5_readExpr_48 X Q rc dr Hrc hd FU  h E)
  · rw [if_neg q1] at h
    refine h_aload_n dX5_readExpr_6 rfl ?_
    refine h_aload_n dX5_readExpr_7 rfl ?_
    refine g_X5_46  dX5_readExpr_8 ?_
    refine h_iconst (2 : Int32) dX5_readExpr_11 k_iconst_2 ?_
    refine h_icmp_eq (tgt := 32) dX5_readExpr_12 (by decide) (fun q2 => ?_) (fun q2 => ?_)
    · rw [if_pos q2] at h
      exact h_mask [false, false, false] (b_X5_readExpr_32 X Q rc dr Hrc hd  h E)
    · rw [if_neg q2] at h
      refine h_aload_n dX5_readExpr_15 rfl ?_
      refine g_X5_46  dX5_readExpr_16 ?_
      refine h_iconst (1 : Int32) dX5_readExpr_19 k_iconst_1 ?_
      refine h_icmp_eq (tgt := 32) dX5_readExpr_20 (by decide) (fun q3 => ?_) (fun q3 => ?_)
      · rw [if_pos q3] at h
        exact h_mask [false, false, false] (b_X5_readExpr_32 X Q rc dr Hrc hd  h E)
      · rw [if_neg q3] at h
        refine h_aload_n dX5_readExpr_23 rfl ?_
        refine h_bipush (40 : Int32) dX5_readExpr_24 k_bipush_40 ?_
        obtain ⟨y2, hh2, h⟩ := obd_some h
        refine h_cVi [.inl (40 : Int32)] (m_X5_isSign  hh2) cw_X5_172 dX5_readExpr_26 rfl ok_5 (by omega) rfl (Or.inr rfl) rfl ?_
        refine h_if_eq (tgt := 36) dX5_readExpr_29 (by decide) (fun q4 => ?_) (fun q4 => ?_)
        · rw [if_pos q4] at h
          refine h_iconst (1 : Int32) dX5_readExpr_36 k_iconst_1 ?_
          exact h_mask [false, false, false] (b_X5_readExpr_37 X Q rc dr Hrc hd  h E)
        · rw [if_neg q4] at h
          exact h_mask [false, false, false] (b_X5_readExpr_32 X Q rc dr Hrc hd  h E)
theorem m_X5_readExpr (rc : PMem → Mem → Int32 → Option (Mem)) (dr : Nat) (Hrc : ∀ {I : Mem} {P : PMem} {O : Nat → Int64} {D : Bool} {n : Nat} {v1 : Int32} {r : (Mem)}, rc P I v1 = some r → MethR yX5_readExpr cX5_readExpr 3 (none) dr [.inr (.inr (5, 0, 0)), .inl v1] I P O D n none r P O D n) {d : Nat} (hd : dr + 17 ≤ d) {I : Mem} {P : PMem} {O : Nat → Int64} {D : Bool} {n : Nat} {v1 : Int32} {r : (Mem)}  (h : f_X5_readExpr rc P I v1 = some r) : MethR yX5_readExpr cX5_readExpr 3 (none) d [.inr (.inr (5, 0, 0)), .inl v1] I P O D n none r P O D n := meth_R (Nat.le_refl _) (by decide) rfl (Nat.le_of_ble_eq_true rfl) rfl (fun X Q E => b_X5_readExpr X Q rc dr Hrc hd  h E)
def F_X5_readExpr : Nat → PMem → Mem → Int32 → Option (Mem)
  | 0, _, _, _ => none
  | k + 1, P, I, v1 => f_X5_readExpr (F_X5_readExpr k) P I v1
theorem mF_X5_readExpr : ∀ (k : Nat) {I : Mem} {P : PMem} {O : Nat → Int64} {D : Bool} {n : Nat} {v1 : Int32} {r : (Mem)}, F_X5_readExpr k P I v1 = some r → MethR yX5_readExpr cX5_readExpr 3 (none) (20 * k) [.inr (.inr (5, 0, 0)), .inl v1] I P O D n none r P O D n := by
  intro k
  induction k with
  | zero => intro I P O D n v1 r h; cases h
  | succ k ih => intro I P O D n v1 r h; exact m_X5_readExpr (F_X5_readExpr k) (20 * k) ih (by omega) h
def f_X5_readLaw  (P : PMem) (I : Mem) : Option (Mem) :=
  gd (decide ((P 5 0 0 4) < 2)) <|
  (f_X4_isTold I (P 5 0 0 4)).bind fun y1 =>
  if y1 = 0 then ((f_X5_advance I).bind fun y2 =>
  (F_X5_readExpr 8 P y2 (0 : Int32)).bind fun y3 =>
  some y3) else ((f_X5_refuse I (5 : Int32)).bind fun y4 =>
  some y4)
theorem b_X5_readLaw (X : CX) (Q : State → Prop) {I : Mem} {P : PMem} {O : Nat → Int64} {D : Bool} {n : Nat} {r : (Mem)}  (h : f_X5_readLaw P I = some r) (E : EndR X cX5_readLaw RX5 1 (none) 161 n none r P O D Q) : Here X cX5_readLaw RX5 1 (none) 161 n 0 [some (.inr (.inr (5, 0, 0)))] [] I P O D n Q := by
  unfold f_X5_readLaw at h
  refine h_aload_n dX5_readLaw_0 rfl ?_
  refine g_X5_19  dX5_readLaw_1 ?_
  obtain ⟨g1, h⟩ := gd_some h
  have w1 := of_decide_eq_true g1
  refine g_X5_160 (by omega) dX5_readLaw_4 ?_
  obtain ⟨y1, hh1, h⟩ := obd_some h
  refine h_cVi [] (m_X4_isTold (by omega) hh1) cw_X5_163 dX5_readLaw_7 rfl (ok_4 (by omega)) (by decide) rfl (Or.inr rfl) rfl ?_
  refine h_if_eq (tgt := 19) dX5_readLaw_10 (by decide) (fun q1 => ?_) (fun q1 => ?_)
  · rw [if_pos q1] at h
    refine h_aload_n dX5_readLaw_19 rfl ?_
    obtain ⟨y2, hh2, h⟩ := obd_some h
    refine h_cVv [] (m_X5_advance  hh2) cw_X5_43 dX5_readLaw_20 rfl ok_5 (by decide) rfl (Or.inr rfl) rfl ?_
    refine h_aload_n dX5_readLaw_23 rfl ?_
    refine h_iconst (0 : Int32) dX5_readLaw_24 k_iconst_0 ?_
    obtain ⟨y3, hh3, h⟩ := obd_some h
    refine h_cVv [.inl (0 : Int32)] (mF_X5_readExpr 8  hh3) cw_X5_169 dX5_readLaw_25 rfl ok_5 (by decide) rfl (Or.inr rfl) rfl ?_
    cases h
    exact h_vret dX5_readLaw_28 rfl E
  · rw [if_neg q1] at h
    refine h_aload_n dX5_readLaw_13 rfl ?_
    refine h_iconst (5 : Int32) dX5_readLaw_14 k_iconst_5 ?_
    obtain ⟨y4, hh4, h⟩ := obd_some h
    refine h_cVv [.inl (5 : Int32)] (m_X5_refuse  hh4) cw_X5_94 dX5_readLaw_15 rfl ok_5 (by decide) rfl (Or.inr rfl) rfl ?_
    cases h
    exact h_vret dX5_readLaw_18 rfl E
theorem m_X5_readLaw {I : Mem} {P : PMem} {O : Nat → Int64} {D : Bool} {n : Nat}  {r : (Mem)}  (h : f_X5_readLaw P I = some r) : MethR yX5_readLaw cX5_readLaw 1 (none) 161 [.inr (.inr (5, 0, 0))] I P O D n none r P O D n := meth_R (Nat.le_refl _) (by decide) rfl (Nat.le_of_ble_eq_true rfl) rfl (fun X Q E => b_X5_readLaw X Q  h E)
def f_X5_readLine_136  (P : PMem) (I : Mem) : Option (Mem) :=
  (f_X5_takeSign I (59 : Int32)).bind fun y1 =>
  some y1
theorem b_X5_readLine_136 (X : CX) (Q : State → Prop) {I : Mem} {P : PMem} {O : Nat → Int64} {D : Bool} {n : Nat} {r : (Mem)}  (h : f_X5_readLine_136 P I = some r) (E : EndR X cX5_readLine RX5 1 (none) 162 n none r P O D Q) : Here X cX5_readLine RX5 1 (none) 162 n 136 [some (.inr (.inr (5, 0, 0)))] [] I P O D n Q := by
  unfold f_X5_readLine_136 at h
  refine h_aload_n dX5_readLine_136 rfl ?_
  refine h_bipush (59 : Int32) dX5_readLine_137 k_bipush_59 ?_
  obtain ⟨y1, hh1, h⟩ := obd_some h
  refine h_cVv [.inl (59 : Int32)] (m_X5_takeSign  hh1) cw_X5_97 dX5_readLine_139 rfl ok_5 (by decide) rfl (Or.inr rfl) rfl ?_
  cases h
  exact h_vret dX5_readLine_142 rfl E
def f_X5_readLine  (P : PMem) (I : Mem) : Option (Mem) :=
  (f_X5_isWord I 6).bind fun y1 =>
  if y1 = 0 then ((f_X5_isWord I 23).bind fun y2 =>
  if y2 = 0 then ((f_X5_isWord I 11).bind fun y3 =>
  if y3 = 0 then ((f_X5_isWord I 0).bind fun y4 =>
  if y4 = 0 then ((f_X5_isWord I 1).bind fun y5 =>
  if y5 = 0 then ((f_X5_isWord I 2).bind fun y6 =>
  if y6 = 0 then ((f_X5_isWord I 10).bind fun y7 =>
  if y7 = 0 then ((f_X5_isWord I 13).bind fun y8 =>
  if y8 = 0 then ((f_X5_refuse I (1 : Int32)).bind fun y9 =>
  f_X5_readLine_136 P y9) else ((f_X5_readLaw P I).bind fun y10 =>
  f_X5_readLine_136 P y10)) else ((f_X5_readCase P I).bind fun y11 =>
  f_X5_readLine_136 P y11)) else ((f_X5_readJudge P I (2 : Int32)).bind fun y12 =>
  f_X5_readLine_136 P y12)) else ((f_X5_readJudge P I (1 : Int32)).bind fun y13 =>
  f_X5_readLine_136 P y13)) else ((f_X5_readJudge P I (0 : Int32)).bind fun y14 =>
  f_X5_readLine_136 P y14)) else ((f_X5_readGossip P I).bind fun y15 =>
  f_X5_readLine_136 P y15)) else ((f_X5_readRoad P I).bind fun y16 =>
  f_X5_readLine_136 P y16)) else ((f_X5_readTown P I).bind fun y17 =>
  f_X5_readLine_136 P y17)
theorem b_X5_readLine (X : CX) (Q : State → Prop) {I : Mem} {P : PMem} {O : Nat → Int64} {D : Bool} {n : Nat} {r : (Mem)}  (h : f_X5_readLine P I = some r) (E : EndR X cX5_readLine RX5 1 (none) 162 n none r P O D Q) : Here X cX5_readLine RX5 1 (none) 162 n 0 [some (.inr (.inr (5, 0, 0)))] [] I P O D n Q := by
  unfold f_X5_readLine at h
  refine h_aload_n dX5_readLine_0 rfl ?_
  refine h_ldcs (text := "town") (j := 6) dX5_readLine_1 (by decide) ?_
  obtain ⟨y1, hh1, h⟩ := obd_some h
  refine h_cVi [.inr (.inr (90, 6, 0))] (m_X5_isWord (by decide) hh1) cw_X5_57 dX5_readLine_3 rfl ok_5 (by decide) rfl (Or.inr rfl) rfl ?_
  refine h_if_eq (tgt := 16) dX5_readLine_6 (by decide) (fun q1 => ?_) (fun q1 => ?_)
  · rw [if_pos q1] at h
    refine h_aload_n dX5_readLine_16 rfl ?_
    refine h_ldcs (text := "road") (j := 23) dX5_readLine_17 (by decide) ?_
    obtain ⟨y2, hh2, h⟩ := obd_some h
    refine h_cVi [.inr (.inr (90, 23, 0))] (m_X5_isWord (by decide) hh2) cw_X5_57 dX5_readLine_19 rfl ok_5 (by decide) rfl (Or.inr rfl) rfl ?_
    refine h_if_eq (tgt := 32) dX5_readLine_22 (by decide) (fun q2 => ?_) (fun q2 => ?_)
    · rw [if_pos q2] at h
      refine h_aload_n dX5_readLine_32 rfl ?_
      refine h_ldcs (text := "gossip") (j := 11) dX5_readLine_33 (by decide) ?_
      obtain ⟨y3, hh3, h⟩ := obd_some h
      refine h_cVi [.inr (.inr (90, 11, 0))] (m_X5_isWord (by decide) hh3) cw_X5_57 dX5_readLine_35 rfl ok_5 (by decide) rfl (Or.inr rfl) rfl ?_
      refine h_if_eq (tgt := 48) dX5_readLine_38 (by decide) (fun q3 => ?_) (fun q3 => ?_)
      · rw [if_pos q3] at h
        refine h_aload_n dX5_readLine_48 rfl ?_
        refine h_ldcs (text := "judge") (j := 0) dX5_readLine_49 (by decide) ?_
        obtain ⟨y4, hh4, h⟩ := obd_some h
        refine h_cVi [.inr (.inr (90, 0, 0))] (m_X5_isWord (by decide) hh4) cw_X5_57 dX5_readLine_51 rfl ok_5 (by decide) rfl (Or.inr rfl) rfl ?_
        refine h_if_eq (tgt := 65) dX5_readLine_54 (by decide) (fun q4 => ?_) (fun q4 => ?_)
        · rw [if_pos q4] at h
          refine h_aload_n dX5_readLine_65 rfl ?_
          refine h_ldcs (text := "deaf") (j := 1) dX5_readLine_66 (by decide) ?_
          obtain ⟨y5, hh5, h⟩ := obd_some h
          refine h_cVi [.inr (.inr (90, 1, 0))] (m_X5_isWord (by decide) hh5) cw_X5_57 dX5_readLine_68 rfl ok_5 (by decide) rfl (Or.inr rfl) rfl ?_
          refine h_if_eq (tgt := 82) dX5_readLine_71 (by decide) (fun q5 => ?_) (fun q5 => ?_)
          · rw [if_pos q5] at h
            refine h_aload_n dX5_readLine_82 rfl ?_
            refine h_ldcs (text := "wise") (j := 2) dX5_readLine_83 (by decide) ?_
            obtain ⟨y6, hh6, h⟩ := obd_some h
            refine h_cVi [.inr (.inr (90, 2, 0))] (m_X5_isWord (by decide) hh6) cw_X5_57 dX5_readLine_85 rfl ok_5 (by decide) rfl (Or.inr rfl) rfl ?_
            refine h_if_eq (tgt := 99) dX5_readLine_88 (by decide) (fun q6 => ?_) (fun q6 => ?_)
            · rw [if_pos q6] at h
              refine h_aload_n dX5_readLine_99 rfl ?_
              refine h_ldcs (text := "case") (j := 10) dX5_readLine_100 (by decide) ?_
              obtain ⟨y7, hh7, h⟩ := obd_some h
              refine h_cVi [.inr (.inr (90, 10, 0))] (m_X5_isWord (by decide) hh7) cw_X5_57 dX5_readLine_102 rfl ok_5 (by decide) rfl (Or.inr rfl) rfl ?_
              refine h_if_eq (tgt := 115) dX5_readLine_105 (by decide) (fun q7 => ?_) (fun q7 => ?_)
              · rw [if_pos q7] at h
                refine h_aload_n dX5_readLine_115 rfl ?_
                refine h_ldcs (text := "law") (j := 13) dX5_readLine_116 (by decide) ?_
                obtain ⟨y8, hh8, h⟩ := obd_some h
                refine h_cVi [.inr (.inr (90, 13, 0))] (m_X5_isWord (by decide) hh8) cw_X5_57 dX5_readLine_118 rfl ok_5 (by decide) rfl (Or.inr rfl) rfl ?_
                refine h_if_eq (tgt := 131) dX5_readLine_121 (by decide) (fun q8 => ?_) (fun q8 => ?_)
                · rw [if_pos q8] at h
                  refine h_aload_n dX5_readLine_131 rfl ?_
                  refine h_iconst (1 : Int32) dX5_readLine_132 k_iconst_1 ?_
                  obtain ⟨y9, hh9, h⟩ := obd_some h
                  refine h_cVv [.inl (1 : Int32)] (m_X5_refuse  hh9) cw_X5_94 dX5_readLine_133 rfl ok_5 (by decide) rfl (Or.inr rfl) rfl ?_
                  exact (b_X5_readLine_136 X Q  h E)
                · rw [if_neg q8] at h
                  refine h_aload_n dX5_readLine_124 rfl ?_
                  obtain ⟨y10, hh10, h⟩ := obd_some h
                  refine h_cVv [] (m_X5_readLaw  hh10) cw_X5_91 dX5_readLine_125 rfl ok_5 (by decide) rfl (Or.inr rfl) rfl ?_
                  refine h_goto (tgt := 136) dX5_readLine_128 (by decide) ?_
                  exact (b_X5_readLine_136 X Q  h E)
              · rw [if_neg q7] at h
                refine h_aload_n dX5_readLine_108 rfl ?_
                obtain ⟨y11, hh11, h⟩ := obd_some h
                refine h_cVv [] (m_X5_readCase  hh11) cw_X5_86 dX5_readLine_109 rfl ok_5 (by decide) rfl (Or.inr rfl) rfl ?_
                refine h_goto (tgt := 136) dX5_readLine_112 (by decide) ?_
                exact (b_X5_readLine_136 X Q  h E)
            · rw [if_neg q6] at h
              refine h_aload_n dX5_readLine_91 rfl ?_
              refine h_iconst (2 : Int32) dX5_readLine_92 k_iconst_2 ?_
              obtain ⟨y12, hh12, h⟩ := obd_some h
              refine h_cVv [.inl (2 : Int32)] (m_X5_readJudge  hh12) cw_X5_76 dX5_readLine_93 rfl ok_5 (by decide) rfl (Or.inr rfl) rfl ?_
              refine h_goto (tgt := 136) dX5_readLine_96 (by decide) ?_
              exact (b_X5_readLine_136 X Q  h E)
          · rw [if_neg q5] at h
            refine h_aload_n dX5_readLine_74 rfl ?_
            refine h_iconst (1 : Int32) dX5_readLine_75 k_iconst_1 ?_
            obtain ⟨y13, hh13, h⟩ := obd_some h
            refine h_cVv [.inl (1 : Int32)] (m_X5_readJudge  hh13) cw_X5_76 dX5_readLine_76 rfl ok_5 (by decide) rfl (Or.inr rfl) rfl ?_
            refine h_goto (tgt := 136) dX5_readLine_79 (by decide) ?_
            exact (b_X5_readLine_136 X Q  h E)
        · rw [if_neg q4] at h
          refine h_aload_n dX5_readLine_57 rfl ?_
          refine h_iconst (0 : Int32) dX5_readLine_58 k_iconst_0 ?_
          obtain ⟨y14, hh14, h⟩ := obd_some h
          refine h_cVv [.inl (0 : Int32)] (m_X5_readJudge  hh14) cw_X5_76 dX5_readLine_59 rfl ok_5 (by decide) rfl (Or.inr rfl) rfl ?_
          refine h_goto (tgt := 136) dX5_readLine_62 (by decide) ?_
          exact (b_X5_readLine_136 X Q  h E)
      · rw [if_neg q3] at h
        refine h_aload_n dX5_readLine_41 rfl ?_
        obtain ⟨y15, hh15, h⟩ := obd_some h
        refine h_cVv [] (m_X5_readGossip  hh15) cw_X5_71 dX5_readLine_42 rfl ok_5 (by decide) rfl (Or.inr rfl) rfl ?_
        refine h_goto (tgt := 136) dX5_readLine_45 (by decide) ?_
        exact (b_X5_readLine_136 X Q  h E)
    · rw [if_neg q2] at h
      refine h_aload_n dX5_readLine_25 rfl ?_
      obtain ⟨y16, hh16, h⟩ := obd_some h
      refine h_cVv [] (m_X5_readRoad  hh16) cw_X5_66 dX5_readLine_26 rfl ok_5 (by decide) rfl (Or.inr rfl) rfl ?_
      refine h_goto (tgt := 136) dX5_readLine_29 (by decide) ?_
      exact (b_X5_readLine_136 X Q  h E)
  · rw [if_neg q1] at h
    refine h_aload_n dX5_readLine_9 rfl ?_
    obtain ⟨y17, hh17, h⟩ := obd_some h
    refine h_cVv [] (m_X5_readTown  hh17) cw_X5_61 dX5_readLine_10 rfl ok_5 (by decide) rfl (Or.inr rfl) rfl ?_
    refine h_goto (tgt := 136) dX5_readLine_13 (by decide) ?_
    exact (b_X5_readLine_136 X Q  h E)
theorem m_X5_readLine {I : Mem} {P : PMem} {O : Nat → Int64} {D : Bool} {n : Nat}  {r : (Mem)}  (h : f_X5_readLine P I = some r) : MethR yX5_readLine cX5_readLine 1 (none) 162 [.inr (.inr (5, 0, 0))] I P O D n none r P O D n := meth_R (Nat.le_refl _) (by decide) rfl (Nat.le_of_ble_eq_true rfl) rfl (fun X Q E => b_X5_readLine X Q  h E)
def f_X5_readLand_77  (z2 : Nat) (I : Mem) (P : PMem) : Option (Mem × PMem) :=
  if (I 5 0 0 0) = 0 then (gd (decide ((P 5 0 0 4) < 2)) <|
  (f_X3_measureWays (P 5 0 0 4) I).bind fun y1 =>
  some (y1, P)) else (some (I, P))
theorem b_X5_readLand_77 (X : CX) (Q : State → Prop) {I : Mem} {P : PMem} {O : Nat → Int64} {D : Bool} {n : Nat} {z2 : Nat} {r : (Mem × PMem)}  (hz2 : z2 < 2) (h : f_X5_readLand_77 z2 I P = some r) (E : EndR X cX5_readLand RX5 4 (none) 163 n none r.1 r.2 O D Q) : Here X cX5_readLand RX5 4 (none) 163 n 77 [some (.inr (.inr (5, 0, 0))), none, none, none] [] I P O D n Q := by
  unfold f_X5_readLand_77 at h
  refine h_aload_n dX5_readLand_77 rfl ?_
  refine g_X5_37  dX5_readLand_78 ?_
  refine h_if_ne (tgt := 91) dX5_readLand_81 (by decide) (fun q1 => ?_) (fun q1 => ?_)
  · rw [if_neg q1] at h
    cases h
    exact h_vret dX5_readLand_91 rfl E
  · rw [if_pos q1] at h
    refine h_aload_n dX5_readLand_84 rfl ?_
    refine g_X5_19  dX5_readLand_85 ?_
    obtain ⟨g1, h⟩ := gd_some h
    have w1 := of_decide_eq_true g1
    obtain ⟨y1, hh1, h⟩ := obd_some h
    refine h_cVv [] (m_X3_measureWays (by omega) hh1) cw_X5_52 dX5_readLand_88 rfl (ok_3 (by omega)) (by decide) rfl (Or.inr rfl) rfl ?_
    cases h
    exact h_vret dX5_readLand_91 rfl E
def f_X5_readLand_46  (z2 : Nat) : Nat → Mem → PMem → Int32 → Option (Mem × PMem)
  | 0, _, _, _ => none
  | fu + 1, I, P, v3 =>
    if (600 : Int32) ≤ v3 then (f_X5_readLand_77 z2 I P) else (if (I 5 0 0 0) = 0 then (if (I 5 0 0 5) = 0 then (f_X5_readLand_77 z2 I P) else ((f_X5_readLine P I).bind fun y1 =>
    (f_X5_readLand_46 z2 fu) y1 P (v3 + (1 : Int32)))) else (f_X5_readLand_77 z2 I P))
theorem b_X5_readLand_46 (X : CX) (Q : State → Prop) {O : Nat → Int64} {D : Bool} {n : Nat} {z2 : Nat} {r : (Mem × PMem)}  (hz2 : z2 < 2) : ∀ (fu : Nat) {I : Mem} {P : PMem} {v3 : Int32}, f_X5_readLand_46 z2 fu I P v3 = some r → EndR X cX5_readLand RX5 4 (none) 163 n none r.1 r.2 O D Q → Here X cX5_readLand RX5 4 (none) 163 n 46 [some (.inr (.inr (5, 0, 0))), none, none, some (.inl v3)] [] I P O D n Q := by
  intro fu
  induction fu with
  | zero => intro I P v3 h E; cases h
  | succ fu ih =>
  intro I P v3 h E
  have H46 : ∀ (I : Mem) (P : PMem) (v3 : Int32), f_X5_readLand_46 z2 fu I P v3 = some r → Here X cX5_readLand RX5 4 (none) 163 n 46 [some (.inr (.inr (5, 0, 0))), none, none, some (.inl v3)] [] I P O D n Q := fun _ _ _ b => ih b E
  simp only [f_X5_readLand_46] at h
  refine h_iload_n dX5_readLand_46 rfl ?_
  refine h_sipush (600 : Int32) dX5_readLand_47 k_sipush_600 ?_
  refine h_icmp_ge (tgt := 77) dX5_readLand_50 (by decide) (fun q1 => ?_) (fun q1 => ?_)
  · rw [if_pos q1] at h
    exact h_mask [true, false, false, false] (b_X5_readLand_77 X Q hz2  h E)
  · rw [if_neg q1] at h
    refine h_aload_n dX5_readLand_53 rfl ?_
    refine g_X5_37  dX5_readLand_54 ?_
    refine h_if_ne (tgt := 77) dX5_readLand_57 (by decide) (fun q2 => ?_) (fun q2 => ?_)
    · rw [if_neg q2] at h
      exact h_mask [true, false, false, false] (b_X5_readLand_77 X Q hz2  h E)
    · rw [if_pos q2] at h
      refine h_aload_n dX5_readLand_60 rfl ?_
      refine g_X5_46  dX5_readLand_61 ?_
      refine h_if_eq (tgt := 77) dX5_readLand_64 (by decide) (fun q3 => ?_) (fun q3 => ?_)
      · rw [if_pos q3] at h
        exact h_mask [true, false, false, false] (b_X5_readLand_77 X Q hz2  h E)
      · rw [if_neg q3] at h
        refine h_aload_n dX5_readLand_67 rfl ?_
        obtain ⟨y1, hh1, h⟩ := obd_some h
        refine h_cVv [] (m_X5_readLine  hh1) cw_X5_49 dX5_readLand_68 rfl ok_5 (by decide) rfl (Or.inr rfl) rfl ?_
        refine h_iinc (1 : Int32) dX5_readLand_71 rfl k_iinc_1 (by decide) rfl ?_
        refine h_goto (tgt := 46) dX5_readLand_74 (by decide) ?_
        exact (H46 _ _ _ h)
def f_X5_readLand  (z2 : Nat) (I : Mem) (P : PMem) (v1 : Int32) : Option (Mem × PMem) :=
  bnd (upd4 I 5 0 0 3 (jmin v1 (600 : Int32))) fun I1' =>
  bnd (updP P 5 0 0 4 z2) fun P1' =>
  gd (decide ((P1' 5 0 0 4) < 2)) <|
  (f_X3_clear (P1' 5 0 0 4) I1').bind fun y1 =>
  bnd (upd4 y1 5 0 0 0 (0 : Int32)) fun I2' =>
  bnd (upd4 I2' 5 0 0 1 (-1 : Int32)) fun I3' =>
  bnd (upd4 I3' 5 0 0 7 (0 : Int32)) fun I4' =>
  (f_X5_advance I4').bind fun y2 =>
  f_X5_readLand_46 z2 FU y2 P1' (0 : Int32)
theorem b_X5_readLand (X : CX) (Q : State → Prop) {I : Mem} {P : PMem} {O : Nat → Int64} {D : Bool} {n : Nat} {z2 : Nat} {v1 : Int32} {r : (Mem × PMem)}  (hz2 : z2 < 2) (h : f_X5_readLand z2 I P v1 = some r) (E : EndR X cX5_readLand RX5 4 (none) 163 n none r.1 r.2 O D Q) : Here X cX5_readLand RX5 4 (none) 163 n 0 [some (.inr (.inr (5, 0, 0))), some (.inl v1), some (.inr (.inr (3, z2, 0))), none] [] I P O D n Q := by
  unfold f_X5_readLand at h
  refine h_aload_n dX5_readLand_0 rfl ?_
  refine h_iload_n dX5_readLand_1 rfl ?_
  refine h_aload_n dX5_readLand_2 rfl ?_
  refine g_X5_15  dX5_readLand_3 ?_
  refine h_alenb (600 : Int32) rfl dX5_readLand_6 ok_47 rfl ?_
  refine h_min dX5_readLand_7 ml_X5_23 wm1_min wm2 wm3_min (by decide) rfl ?_
  obtain ⟨I1', e1, h⟩ := bnd_some h
  refine p_X5_29  dX5_readLand_10 ?_
  refine h_nmI e1 ?_
  refine h_aload_n dX5_readLand_13 rfl ?_
  refine h_aload_n dX5_readLand_14 rfl ?_
  obtain ⟨P1', e2, h⟩ := bnd_some h
  refine p_X5_19  dX5_readLand_15 ?_
  refine h_nmP e2 ?_
  refine h_aload_n dX5_readLand_18 rfl ?_
  refine g_X5_19  dX5_readLand_19 ?_
  obtain ⟨g1, h⟩ := gd_some h
  have w1 := of_decide_eq_true g1
  obtain ⟨y1, hh1, h⟩ := obd_some h
  refine h_cVv [] (m_X3_clear (by omega) hh1) cw_X5_32 dX5_readLand_22 rfl (ok_3 (by omega)) (by decide) rfl (Or.inr rfl) rfl ?_
  refine h_aload_n dX5_readLand_25 rfl ?_
  refine h_iconst (0 : Int32) dX5_readLand_26 k_iconst_0 ?_
  obtain ⟨I2', e3, h⟩ := bnd_some h
  refine p_X5_37  dX5_readLand_27 ?_
  refine h_nmI e3 ?_
  refine h_aload_n dX5_readLand_30 rfl ?_
  refine h_iconst (-1 : Int32) dX5_readLand_31 k_iconst_m1 ?_
  obtain ⟨I3', e4, h⟩ := bnd_some h
  refine p_X5_9  dX5_readLand_32 ?_
  refine h_nmI e4 ?_
  refine h_aload_n dX5_readLand_35 rfl ?_
  refine h_iconst (0 : Int32) dX5_readLand_36 k_iconst_0 ?_
  obtain ⟨I4', e5, h⟩ := bnd_some h
  refine p_X5_40  dX5_readLand_37 ?_
  refine h_nmI e5 ?_
  refine h_aload_n dX5_readLand_40 rfl ?_
  obtain ⟨y2, hh2, h⟩ := obd_some h
  refine h_cVv [] (m_X5_advance  hh2) cw_X5_43 dX5_readLand_41 rfl ok_5 (by decide) rfl (Or.inr rfl) rfl ?_
  refine h_iconst (0 : Int32) dX5_readLand_44 k_iconst_0 ?_
  refine h_istore_n dX5_readLand_45 (by decide) rfl ?_
  exact h_mask [true, false, false, true] (b_X5_readLand_46 X Q hz2 FU  h E)
theorem m_X5_readLand {I : Mem} {P : PMem} {O : Nat → Int64} {D : Bool} {n : Nat} {v1 : Int32} {z2 : Nat} {r : (Mem × PMem)} (hz2 : z2 < 2) (h : f_X5_readLand z2 I P v1 = some r) : MethR yX5_readLand cX5_readLand 4 (none) 163 [.inr (.inr (5, 0, 0)), .inl v1, .inr (.inr (3, z2, 0))] I P O D n none r.1 r.2 O D n := meth_R (Nat.le_refl _) (by decide) rfl (Nat.le_of_ble_eq_true rfl) rfl (fun X Q E => b_X5_readLand X Q hz2 h E)
def f_X6_isFull  (I : Mem) (z0 : Nat)  : Option (Int32) :=
  if (I 6 z0 0 3) < (Int32.ofNat (rowsLen z0)) then (some (0 : Int32)) else (some (1 : Int32))
theorem b_X6_isFull (X : CX) (Q : State → Prop) {I : Mem} {P : PMem} {O : Nat → Int64} {D : Bool} {n : Nat} {z0 : Nat} {r : (Int32)}  (hz0 : z0 < 10) (h : f_X6_isFull I z0 = some r) (E : EndR X cX6_isFull RX6 1 (some .boolean) 2 n (some (.inl r)) I P O D Q) : Here X cX6_isFull RX6 1 (some .boolean) 2 n 0 [some (.inr (.inr (6, z0, 0)))] [] I P O D n Q := by
  unfold f_X6_isFull at h
  refine h_aload_n dX6_isFull_0 rfl ?_
  refine g_X6_25 (by omega) dX6_isFull_1 ?_
  refine h_aload_n dX6_isFull_4 rfl ?_
  refine g_X6_13 (by omega) dX6_isFull_5 ?_
  refine h_aleni (Int32.ofNat (rowsLen z0)) rfl dX6_isFull_8 (ok_44 (by omega)) rfl ?_
  refine h_icmp_lt (tgt := 16) dX6_isFull_9 (by decide) (fun q1 => ?_) (fun q1 => ?_)
  · rw [if_pos q1] at h
    refine h_iconst (0 : Int32) dX6_isFull_16 k_iconst_0 ?_
    cases h
    exact h_zret dX6_isFull_17 rfl rfl E
  · rw [if_neg q1] at h
    refine h_iconst (1 : Int32) dX6_isFull_12 k_iconst_1 ?_
    refine h_goto (tgt := 17) dX6_isFull_13 (by decide) ?_
    cases h
    exact h_zret dX6_isFull_17 rfl rfl E
theorem m_X6_isFull {I : Mem} {P : PMem} {O : Nat → Int64} {D : Bool} {n : Nat} {z0 : Nat} {r : (Int32)} (hz0 : z0 < 10) (h : f_X6_isFull I z0 = some r) : MethR yX6_isFull cX6_isFull 1 (some .boolean) 2 [.inr (.inr (6, z0, 0))] I P O D n (some (.inl r)) I P O D n := meth_R (Nat.le_refl _) (by decide) rfl (Nat.le_of_ble_eq_true rfl) rfl (fun X Q E => b_X6_isFull X Q hz0 h E)
def f_X6_dropFirst  (z0 : Nat) (I : Mem) : Option (Mem) :=
  if (I 6 z0 0 3) ≤ 0 then (some I) else (bnd (upd4 I 6 z0 0 3 ((I 6 z0 0 3) - (1 : Int32))) fun I1' =>
  gd (cpOK (1 : Int32) (0 : Int32) (I1' 6 z0 0 3) (rowsLen z0) (rowsLen z0)) <|
  bnd (updR I1' 44 z0 0 (va_cpy (I1' 44 z0 0) (I1' 44 z0 0) (1 : Int32).toNatClampNeg (0 : Int32).toNatClampNeg (I1' 6 z0 0 3).toNatClampNeg)) fun I2' =>
  gd (cpOK (1 : Int32) (0 : Int32) (I2' 6 z0 0 3) (rowsLen z0) (rowsLen z0)) <|
  bnd (updR I2' 45 z0 0 (va_cpy (I2' 45 z0 0) (I2' 45 z0 0) (1 : Int32).toNatClampNeg (0 : Int32).toNatClampNeg (I2' 6 z0 0 3).toNatClampNeg)) fun I3' =>
  gd (cpOK (1 : Int32) (0 : Int32) (I3' 6 z0 0 3) (rowsLen z0) (rowsLen z0)) <|
  bnd (updR I3' 46 z0 0 (va_cpy (I3' 46 z0 0) (I3' 46 z0 0) (1 : Int32).toNatClampNeg (0 : Int32).toNatClampNeg (I3' 6 z0 0 3).toNatClampNeg)) fun I4' =>
  some I4')
theorem b_X6_dropFirst (X : CX) (Q : State → Prop) {I : Mem} {P : PMem} {O : Nat → Int64} {D : Bool} {n : Nat} {z0 : Nat} {r : (Mem)}  (hz0 : z0 < 10) (h : f_X6_dropFirst z0 I = some r) (E : EndR X cX6_dropFirst RX6 1 (none) 2 n none r P O D Q) : Here X cX6_dropFirst RX6 1 (none) 2 n 0 [some (.inr (.inr (6, z0, 0)))] [] I P O D n Q := by
  unfold f_X6_dropFirst at h
  refine h_aload_n dX6_dropFirst_0 rfl ?_
  refine g_X6_25 (by omega) dX6_dropFirst_1 ?_
  refine h_if_le (tgt := 68) dX6_dropFirst_4 (by decide) (fun q1 => ?_) (fun q1 => ?_)
  · rw [if_pos q1] at h
    cases h
    exact h_vret dX6_dropFirst_68 rfl E
  · rw [if_neg q1] at h
    refine h_aload_n dX6_dropFirst_7 rfl ?_
    refine h_dup dX6_dropFirst_8 (fun _ => rfl) ?_
    refine g_X6_25 (by omega) dX6_dropFirst_9 ?_
    refine h_iconst (1 : Int32) dX6_dropFirst_12 k_iconst_1 ?_
    refine h_isub dX6_dropFirst_13 ?_
    obtain ⟨I1', e1, h⟩ := bnd_some h
    refine p_X6_25 (by omega) dX6_dropFirst_14 ?_
    refine h_nmI e1 ?_
    refine h_aload_n dX6_dropFirst_17 rfl ?_
    refine g_X6_13 (by omega) dX6_dropFirst_18 ?_
    refine h_iconst (1 : Int32) dX6_dropFirst_21 k_iconst_1 ?_
    refine h_aload_n dX6_dropFirst_22 rfl ?_
    refine g_X6_13 (by omega) dX6_dropFirst_23 ?_
    refine h_iconst (0 : Int32) dX6_dropFirst_26 k_iconst_0 ?_
    refine h_aload_n dX6_dropFirst_27 rfl ?_
    refine g_X6_25 (by omega) dX6_dropFirst_28 ?_
    obtain ⟨g1, h⟩ := gd_some h
    obtain ⟨I2', e2, h⟩ := bnd_some h
    refine h_copy dX6_dropFirst_31 ml_X6_36 wa1 wa2 wa3 (by decide) rfl rfl (ok_44 (by omega)) rfl (ok_44 (by omega)) g1 ?_
    refine h_nmI e2 ?_
    refine h_aload_n dX6_dropFirst_34 rfl ?_
    refine g_X6_19 (by omega) dX6_dropFirst_35 ?_
    refine h_iconst (1 : Int32) dX6_dropFirst_38 k_iconst_1 ?_
    refine h_aload_n dX6_dropFirst_39 rfl ?_
    refine g_X6_19 (by omega) dX6_dropFirst_40 ?_
    refine h_iconst (0 : Int32) dX6_dropFirst_43 k_iconst_0 ?_
    refine h_aload_n dX6_dropFirst_44 rfl ?_
    refine g_X6_25 (by omega) dX6_dropFirst_45 ?_
    obtain ⟨g2, h⟩ := gd_some h
    obtain ⟨I3', e3, h⟩ := bnd_some h
    refine h_copy dX6_dropFirst_48 ml_X6_36 wa1 wa2 wa3 (by decide) rfl rfl (ok_45 (by omega)) rfl (ok_45 (by omega)) g2 ?_
    refine h_nmI e3 ?_
    refine h_aload_n dX6_dropFirst_51 rfl ?_
    refine g_X6_22 (by omega) dX6_dropFirst_52 ?_
    refine h_iconst (1 : Int32) dX6_dropFirst_55 k_iconst_1 ?_
    refine h_aload_n dX6_dropFirst_56 rfl ?_
    refine g_X6_22 (by omega) dX6_dropFirst_57 ?_
    refine h_iconst (0 : Int32) dX6_dropFirst_60 k_iconst_0 ?_
    refine h_aload_n dX6_dropFirst_61 rfl ?_
    refine g_X6_25 (by omega) dX6_dropFirst_62 ?_
    obtain ⟨g3, h⟩ := gd_some h
    obtain ⟨I4', e4, h⟩ := bnd_some h
    refine h_copy dX6_dropFirst_65 ml_X6_36 wa1 wa2 wa3 (by decide) rfl rfl (ok_46 (by omega)) rfl (ok_46 (by omega)) g3 ?_
    refine h_nmI e4 ?_
    cases h
    exact h_vret dX6_dropFirst_68 rfl E
theorem m_X6_dropFirst {I : Mem} {P : PMem} {O : Nat → Int64} {D : Bool} {n : Nat} {z0 : Nat} {r : (Mem)} (hz0 : z0 < 10) (h : f_X6_dropFirst z0 I = some r) : MethR yX6_dropFirst cX6_dropFirst 1 (none) 2 [.inr (.inr (6, z0, 0))] I P O D n none r P O D n := meth_R (Nat.le_refl _) (by decide) rfl (Nat.le_of_ble_eq_true rfl) rfl (fun X Q E => b_X6_dropFirst X Q hz0 h E)
def f_X6_add_11  (z0 : Nat) (I : Mem) (v1 : Int32) (v2 : Int32) (v3 : Int32) : Option (Mem) :=
  gd (inb (I 6 z0 0 3) (rowsLen z0)) <|
  bnd (upd4 I 44 z0 0 ((I 6 z0 0 3).toNatClampNeg) v1) fun I1' =>
  gd (inb (I1' 6 z0 0 3) (rowsLen z0)) <|
  bnd (upd4 I1' 45 z0 0 ((I1' 6 z0 0 3).toNatClampNeg) v2) fun I2' =>
  gd (inb (I2' 6 z0 0 3) (rowsLen z0)) <|
  bnd (upd4 I2' 46 z0 0 ((I2' 6 z0 0 3).toNatClampNeg) v3) fun I3' =>
  bnd (upd4 I3' 6 z0 0 3 ((I3' 6 z0 0 3) + (1 : Int32))) fun I4' =>
  some I4'
theorem b_X6_add_11 (X : CX) (Q : State → Prop) {I : Mem} {P : PMem} {O : Nat → Int64} {D : Bool} {n : Nat} {z0 : Nat} {v1 : Int32} {v2 : Int32} {v3 : Int32} {r : (Mem)}  (hz0 : z0 < 10) (h : f_X6_add_11 z0 I v1 v2 v3 = some r) (E : EndR X cX6_add RX6 4 (none) 3 n none r P O D Q) : Here X cX6_add RX6 4 (none) 3 n 11 [some (.inr (.inr (6, z0, 0))), some (.inl v1), some (.inl v2), some (.inl v3)] [] I P O D n Q := by
  unfold f_X6_add_11 at h
  refine h_aload_n dX6_add_11 rfl ?_
  refine g_X6_13 (by omega) dX6_add_12 ?_
  refine h_aload_n dX6_add_15 rfl ?_
  refine g_X6_25 (by omega) dX6_add_16 ?_
  refine h_iload_n dX6_add_19 rfl ?_
  obtain ⟨g1, h⟩ := gd_some h
  obtain ⟨I1', e1, h⟩ := bnd_some h
  refine as_44 (by omega) ((I 6 z0 0 3).toNatClampNeg) rfl dX6_add_20 g1 ?_
  refine h_nmI e1 ?_
  refine h_aload_n dX6_add_21 rfl ?_
  refine g_X6_19 (by omega) dX6_add_22 ?_
  refine h_aload_n dX6_add_25 rfl ?_
  refine g_X6_25 (by omega) dX6_add_26 ?_
  refine h_iload_n dX6_add_29 rfl ?_
  obtain ⟨g2, h⟩ := gd_some h
  obtain ⟨I2', e2, h⟩ := bnd_some h
  refine as_45 (by omega) ((I1' 6 z0 0 3).toNatClampNeg) rfl dX6_add_30 g2 ?_
  refine h_nmI e2 ?_
  refine h_aload_n dX6_add_31 rfl ?_
  refine g_X6_22 (by omega) dX6_add_32 ?_
  refine h_aload_n dX6_add_35 rfl ?_
  refine g_X6_25 (by omega) dX6_add_36 ?_
  refine h_iload_n dX6_add_39 rfl ?_
  obtain ⟨g3, h⟩ := gd_some h
  obtain ⟨I3', e3, h⟩ := bnd_some h
  refine as_46 (by omega) ((I2' 6 z0 0 3).toNatClampNeg) rfl dX6_add_40 g3 ?_
  refine h_nmI e3 ?_
  refine h_aload_n dX6_add_41 rfl ?_
  refine h_dup dX6_add_42 (fun _ => rfl) ?_
  refine g_X6_25 (by omega) dX6_add_43 ?_
  refine h_iconst (1 : Int32) dX6_add_46 k_iconst_1 ?_
  refine h_iadd dX6_add_47 ?_
  obtain ⟨I4', e4, h⟩ := bnd_some h
  refine p_X6_25 (by omega) dX6_add_48 ?_
  refine h_nmI e4 ?_
  cases h
  exact h_vret dX6_add_51 rfl E
def f_X6_add  (z0 : Nat) (I : Mem) (v1 : Int32) (v2 : Int32) (v3 : Int32) : Option (Mem) :=
  (f_X6_isFull I z0).bind fun y1 =>
  if y1 = 0 then (f_X6_add_11 z0 I v1 v2 v3) else ((f_X6_dropFirst z0 I).bind fun y2 =>
  f_X6_add_11 z0 y2 v1 v2 v3)
theorem b_X6_add (X : CX) (Q : State → Prop) {I : Mem} {P : PMem} {O : Nat → Int64} {D : Bool} {n : Nat} {z0 : Nat} {v1 : Int32} {v2 : Int32} {v3 : Int32} {r : (Mem)}  (hz0 : z0 < 10) (h : f_X6_add z0 I v1 v2 v3 = some r) (E : EndR X cX6_add RX6 4 (none) 3 n none r P O D Q) : Here X cX6_add RX6 4 (none) 3 n 0 [some (.inr (.inr (6, z0, 0))), some (.inl v1), some (.inl v2), some (.inl v3)] [] I P O D n Q := by
  unfold f_X6_add at h
  refine h_aload_n dX6_add_0 rfl ?_
  obtain ⟨y1, hh1, h⟩ := obd_some h
  refine h_cVi [] (m_X6_isFull (by omega) hh1) cw_X6_29 dX6_add_1 rfl (ok_6 (by omega)) (by decide) rfl (Or.inr rfl) rfl ?_
  refine h_if_eq (tgt := 11) dX6_add_4 (by decide) (fun q1 => ?_) (fun q1 => ?_)
  · rw [if_pos q1] at h
    exact (b_X6_add_11 X Q hz0  h E)
  · rw [if_neg q1] at h
    refine h_aload_n dX6_add_7 rfl ?_
    obtain ⟨y2, hh2, h⟩ := obd_some h
    refine h_cVv [] (m_X6_dropFirst (by omega) hh2) cw_X6_33 dX6_add_8 rfl (ok_6 (by omega)) (by decide) rfl (Or.inr rfl) rfl ?_
    exact (b_X6_add_11 X Q hz0  h E)
theorem m_X6_add {I : Mem} {P : PMem} {O : Nat → Int64} {D : Bool} {n : Nat} {z0 : Nat} {v1 : Int32} {v2 : Int32} {v3 : Int32} {r : (Mem)} (hz0 : z0 < 10) (h : f_X6_add z0 I v1 v2 v3 = some r) : MethR yX6_add cX6_add 4 (none) 3 [.inr (.inr (6, z0, 0)), .inl v1, .inl v2, .inl v3] I P O D n none r P O D n := meth_R (Nat.le_refl _) (by decide) rfl (Nat.le_of_ble_eq_true rfl) rfl (fun X Q E => b_X6_add X Q hz0 h E)
def f_X7_putBytes_3   : Nat → Mem → Int32 → Int32 → Option (Mem)
  | 0, _, _, _ => none
  | fu + 1, I, v1, v2 =>
    if v2 < 0 then (some I) else (if (600 : Int32) ≤ (I 7 0 0 1) then (some I) else (gd (inb (I 7 0 0 1) 600) <|
    bnd (upd4 I 47 0 0 ((I 7 0 0 1).toNatClampNeg) (((jushr v1 v2).toInt8.toInt32).toInt8.toInt32)) fun I1' =>
    bnd (upd4 I1' 7 0 0 1 ((I1' 7 0 0 1) + (1 : Int32))) fun I2' =>
    (f_X7_putBytes_3 fu) I2' v1 (v2 + (-8 : Int32))))
theorem b_X7_putBytes_3 (X : CX) (Q : State → Prop) {P : PMem} {O : Nat → Int64} {D : Bool} {n : Nat} {r : (Mem)}  : ∀ (fu : Nat) {I : Mem} {v1 : Int32} {v2 : Int32}, f_X7_putBytes_3 fu I v1 v2 = some r → EndR X cX7_putBytes RX7 3 (none) 2 n none r P O D Q → Here X cX7_putBytes RX7 3 (none) 2 n 3 [some (.inr (.inr (7, 0, 0))), some (.inl v1), some (.inl v2)] [] I P O D n Q := by
  intro fu
  induction fu with
  | zero => intro I v1 v2 h E; cases h
  | succ fu ih =>
  intro I v1 v2 h E
  have H3 : ∀ (I : Mem) (v1 : Int32) (v2 : Int32), f_X7_putBytes_3 fu I v1 v2 = some r → Here X cX7_putBytes RX7 3 (none) 2 n 3 [some (.inr (.inr (7, 0, 0))), some (.inl v1), some (.inl v2)] [] I P O D n Q := fun _ _ _ b => ih b E
  simp only [f_X7_putBytes_3] at h
  refine h_iload_n dX7_putBytes_3 rfl ?_
  refine h_if_lt (tgt := 46) dX7_putBytes_4 (by decide) (fun q1 => ?_) (fun q1 => ?_)
  · rw [if_pos q1] at h
    cases h
    exact h_vret dX7_putBytes_46 rfl E
  · rw [if_neg q1] at h
    refine h_aload_n dX7_putBytes_7 rfl ?_
    refine g_X7_58  dX7_putBytes_8 ?_
    refine h_sipush (600 : Int32) dX7_putBytes_11 k_sipush_600 ?_
    refine h_icmp_ge (tgt := 46) dX7_putBytes_14 (by decide) (fun q2 => ?_) (fun q2 => ?_)
    · rw [if_pos q2] at h
      cases h
      exact h_vret dX7_putBytes_46 rfl E
    · rw [if_neg q2] at h
      refine h_aload_n dX7_putBytes_17 rfl ?_
      refine g_X7_9  dX7_putBytes_18 ?_
      refine h_aload_n dX7_putBytes_21 rfl ?_
      refine g_X7_58  dX7_putBytes_22 ?_
      refine h_iload_n dX7_putBytes_25 rfl ?_
      refine h_iload_n dX7_putBytes_26 rfl ?_
      refine h_ushr dX7_putBytes_27 ?_
      refine h_i2b dX7_putBytes_28 ?_
      obtain ⟨g1, h⟩ := gd_some h
      obtain ⟨I1', e1, h⟩ := bnd_some h
      refine as_47  ((I 7 0 0 1).toNatClampNeg) rfl dX7_putBytes_29 g1 ?_
      refine h_nmI e1 ?_
      refine h_aload_n dX7_putBytes_30 rfl ?_
      refine h_dup dX7_putBytes_31 (fun _ => rfl) ?_
      refine g_X7_58  dX7_putBytes_32 ?_
      refine h_iconst (1 : Int32) dX7_putBytes_35 k_iconst_1 ?_
      refine h_iadd dX7_putBytes_36 ?_
      obtain ⟨I2', e2, h⟩ := bnd_some h
      refine p_X7_58  dX7_putBytes_37 ?_
      refine h_nmI e2 ?_
      refine h_iinc (-8 : Int32) dX7_putBytes_40 rfl k_iinc_m8 (by decide) rfl ?_
      refine h_goto (tgt := 3) dX7_putBytes_43 (by decide) ?_
      exact (H3 _ _ _ h)
def f_X7_putBytes   (I : Mem) (v1 : Int32) : Option (Mem) :=
  f_X7_putBytes_3 FU I v1 (24 : Int32)
theorem b_X7_putBytes (X : CX) (Q : State → Prop) {I : Mem} {P : PMem} {O : Nat → Int64} {D : Bool} {n : Nat} {v1 : Int32} {r : (Mem)}  (h : f_X7_putBytes I v1 = some r) (E : EndR X cX7_putBytes RX7 3 (none) 2 n none r P O D Q) : Here X cX7_putBytes RX7 3 (none) 2 n 0 [some (.inr (.inr (7, 0, 0))), some (.inl v1), none] [] I P O D n Q := by
  unfold f_X7_putBytes at h
  refine h_bipush (24 : Int32) dX7_putBytes_0 k_bipush_24 ?_
  refine h_istore_n dX7_putBytes_2 (by decide) rfl ?_
  exact (b_X7_putBytes_3 X Q FU  h E)
theorem m_X7_putBytes {I : Mem} {P : PMem} {O : Nat → Int64} {D : Bool} {n : Nat} {v1 : Int32} {r : (Mem)}  (h : f_X7_putBytes I v1 = some r) : MethR yX7_putBytes cX7_putBytes 3 (none) 2 [.inr (.inr (7, 0, 0)), .inl v1] I P O D n none r P O D n := meth_R (Nat.le_refl _) (by decide) rfl (Nat.le_of_ble_eq_true rfl) rfl (fun X Q E => b_X7_putBytes X Q  h E)
def f_X7_feed   (I : Mem) (v1 : Int32) (v2 : Int32) (v3 : Int32) (v4 : Int32) (v5 : Int32) : Option (Int32 × Mem) :=
  if ((I 7 0 0 1) + (20 : Int32)) ≤ (600 : Int32) then ((f_X7_putBytes I v1).bind fun y1 =>
  (f_X7_putBytes y1 v2).bind fun y2 =>
  (f_X7_putBytes y2 v3).bind fun y3 =>
  (f_X7_putBytes y3 v4).bind fun y4 =>
  (f_X7_putBytes y4 v5).bind fun y5 =>
  some ((y5 7 0 0 1), y5)) else (some ((-1 : Int32), I))
theorem b_X7_feed (X : CX) (Q : State → Prop) {I : Mem} {P : PMem} {O : Nat → Int64} {D : Bool} {n : Nat} {v1 : Int32} {v2 : Int32} {v3 : Int32} {v4 : Int32} {v5 : Int32} {r : (Int32 × Mem)}  (h : f_X7_feed I v1 v2 v3 v4 v5 = some r) (E : EndR X cX7_feed RX7 6 (some .int) 3 n (some (.inl r.1)) r.2 P O D Q) : Here X cX7_feed RX7 6 (some .int) 3 n 0 [some (.inr (.inr (7, 0, 0))), some (.inl v1), some (.inl v2), some (.inl v3), some (.inl v4), some (.inl v5)] [] I P O D n Q := by
  unfold f_X7_feed at h
  refine h_aload_n dX7_feed_0 rfl ?_
  refine g_X7_58  dX7_feed_1 ?_
  refine h_bipush (20 : Int32) dX7_feed_4 k_bipush_20 ?_
  refine h_iadd dX7_feed_6 ?_
  refine h_sipush (600 : Int32) dX7_feed_7 k_sipush_600 ?_
  refine h_icmp_le (tgt := 15) dX7_feed_10 (by decide) (fun q1 => ?_) (fun q1 => ?_)
  · rw [if_pos q1] at h
    refine h_aload_n dX7_feed_15 rfl ?_
    refine h_iload_n dX7_feed_16 rfl ?_
    obtain ⟨y1, hh1, h⟩ := obd_some h
    refine h_cVv [.inl v1] (m_X7_putBytes  hh1) cw_X7_61 dX7_feed_17 rfl ok_7 (by decide) rfl (Or.inr rfl) rfl ?_
    refine h_aload_n dX7_feed_20 rfl ?_
    refine h_iload_n dX7_feed_21 rfl ?_
    obtain ⟨y2, hh2, h⟩ := obd_some h
    refine h_cVv [.inl v2] (m_X7_putBytes  hh2) cw_X7_61 dX7_feed_22 rfl ok_7 (by decide) rfl (Or.inr rfl) rfl ?_
    refine h_aload_n dX7_feed_25 rfl ?_
    refine h_iload_n dX7_feed_26 rfl ?_
    obtain ⟨y3, hh3, h⟩ := obd_some h
    refine h_cVv [.inl v3] (m_X7_putBytes  hh3) cw_X7_61 dX7_feed_27 rfl ok_7 (by decide) rfl (Or.inr rfl) rfl ?_
    refine h_aload_n dX7_feed_30 rfl ?_
    refine h_iload dX7_feed_31 rfl ?_
    obtain ⟨y4, hh4, h⟩ := obd_some h
    refine h_cVv [.inl v4] (m_X7_putBytes  hh4) cw_X7_61 dX7_feed_33 rfl ok_7 (by decide) rfl (Or.inr rfl) rfl ?_
    refine h_aload_n dX7_feed_36 rfl ?_
    refine h_iload dX7_feed_37 rfl ?_
    obtain ⟨y5, hh5, h⟩ := obd_some h
    refine h_cVv [.inl v5] (m_X7_putBytes  hh5) cw_X7_61 dX7_feed_39 rfl ok_7 (by decide) rfl (Or.inr rfl) rfl ?_
    refine h_aload_n dX7_feed_42 rfl ?_
    refine g_X7_58  dX7_feed_43 ?_
    cases h
    exact h_iret dX7_feed_46 rfl E
  · rw [if_neg q1] at h
    refine h_iconst (-1 : Int32) dX7_feed_13 k_iconst_m1 ?_
    cases h
    exact h_iret dX7_feed_14 rfl E
theorem m_X7_feed {I : Mem} {P : PMem} {O : Nat → Int64} {D : Bool} {n : Nat} {v1 : Int32} {v2 : Int32} {v3 : Int32} {v4 : Int32} {v5 : Int32} {r : (Int32 × Mem)}  (h : f_X7_feed I v1 v2 v3 v4 v5 = some r) : MethR yX7_feed cX7_feed 6 (some .int) 3 [.inr (.inr (7, 0, 0)), .inl v1, .inl v2, .inl v3, .inl v4, .inl v5] I P O D n (some (.inl r.1)) r.2 P O D n := meth_R (Nat.le_refl _) (by decide) rfl (Nat.le_of_ble_eq_true rfl) rfl (fun X Q E => b_X7_feed X Q  h E)
def f_X7_land_12   (I : Mem) (P : PMem) : Option ((Int32 × Mem × PMem) ⊕ Nat) :=
  some (Sum.inr 0)
theorem b_X7_land_12 (X : CX) (Q : State → Prop) {I : Mem} {P : PMem} {O : Nat → Int64} {D : Bool} {n : Nat} {r : (Int32 × Mem × PMem)}  (h : f_X7_land_12 I P = some (Sum.inl r)) (E : EndR X cX7_land RX7 3 (some .int) 164 n (some (.inl r.1)) r.2.1 r.2.2 O D Q) : Here X cX7_land RX7 3 (some .int) 164 n 12 [none, none, none] [] I P O D n Q := by
  unfold f_X7_land_12 at h
  cases h
theorem bx_X7_land_12 (X : CX) (Q : State → Prop) {I : Mem} {P : PMem} {O : Nat → Int64} {D : Bool} {n : Nat} {r : Nat}  (h : f_X7_land_12 I P = some (Sum.inr r)) (E : EndX X cX7_land RX7 3 (some .int) 164 (n + 1) r I P O D Q) : Here X cX7_land RX7 3 (some .int) 164 (n + 1) 12 [none, none, none] [] I P O D n Q := by
  unfold f_X7_land_12 at h
  cases h
  exact h_throw (text := "the tape has not so many bytes") (j := 24) tw_0 (by decide) (by decide) rfl dX7_land_12 dX7_land_15 dX7_land_16 dX7_land_18 dX7_land_21 E
def f_X7_land   (I : Mem) (P : PMem) (v1 : Int32) : Option ((Int32 × Mem × PMem) ⊕ Nat) :=
  if v1 < 0 then (f_X7_land_12 I P) else (if v1 ≤ (I 7 0 0 1) then (bnd (upd4 I 7 0 0 1 (0 : Int32)) fun I1' =>
  gd (decide ((P 7 0 0 3) < 2)) <|
  (f_X5_readLand (P 7 0 0 3) I1' P v1).bind fun y1 =>
  bnd (upd4 y1.1 7 0 0 11 (y1.1 5 0 0 1)) fun I2' =>
  if (I2' 5 0 0 0) = 0 then (gd (decide ((y1.2 7 0 0 2) < 2)) <|
  gd (decide ((y1.2 7 0 0 3) < 2)) <|
  bnd (updP y1.2 7 0 0 2 (y1.2 7 0 0 3)) fun P1' =>
  bnd (updP P1' 7 0 0 3 (y1.2 7 0 0 2)) fun P2' =>
  gd (decide ((P2' 7 0 0 2) < 2)) <|
  (f_X0_beginAnew 0 (P2' 7 0 0 2) I2').bind fun y2 =>
  bnd (upd4 y2 7 0 0 7 (0 : Int32)) fun I3' =>
  bnd (upd4 I3' 7 0 0 10 (0 : Int32)) fun I4' =>
  some (Sum.inl ((0 : Int32), I4', P2'))) else (bnd (upd4 I2' 10 0 0 0 ((I2' 10 0 0 0) + (1 : Int32))) fun I5' =>
  some (Sum.inl ((I5' 5 0 0 0), I5', y1.2)))) else (f_X7_land_12 I P))
theorem b_X7_land (X : CX) (Q : State → Prop) {I : Mem} {P : PMem} {O : Nat → Int64} {D : Bool} {n : Nat} {v1 : Int32} {r : (Int32 × Mem × PMem)}  (h : f_X7_land I P v1 = some (Sum.inl r)) (E : EndR X cX7_land RX7 3 (some .int) 164 n (some (.inl r.1)) r.2.1 r.2.2 O D Q) : Here X cX7_land RX7 3 (some .int) 164 n 0 [some (.inr (.inr (7, 0, 0))), some (.inl v1), none] [] I P O D n Q := by
  unfold f_X7_land at h
  refine h_iload_n dX7_land_0 rfl ?_
  refine h_if_lt (tgt := 12) dX7_land_1 (by decide) (fun q1 => ?_) (fun q1 => ?_)
  · rw [if_pos q1] at h
    exact h_mask [false, false, false] (b_X7_land_12 X Q  h E)
  · rw [if_neg q1] at h
    refine h_iload_n dX7_land_4 rfl ?_
    refine h_aload_n dX7_land_5 rfl ?_
    refine g_X7_58  dX7_land_6 ?_
    refine h_icmp_le (tgt := 22) dX7_land_9 (by decide) (fun q2 => ?_) (fun q2 => ?_)
    · rw [if_pos q2] at h
      refine h_aload_n dX7_land_22 rfl ?_
      refine h_iconst (0 : Int32) dX7_land_23 k_iconst_0 ?_
      obtain ⟨I1', e1, h⟩ := bnd_some h
      refine p_X7_58  dX7_land_24 ?_
      refine h_nmI e1 ?_
      refine h_aload_n dX7_land_27 rfl ?_
      refine g_X7_28  dX7_land_28 ?_
      refine h_iload_n dX7_land_31 rfl ?_
      refine h_aload_n dX7_land_32 rfl ?_
      refine g_X7_20  dX7_land_33 ?_
      obtain ⟨g1, h⟩ := gd_some h
      have w1 := of_decide_eq_true g1
      obtain ⟨y1, hh1, h⟩ := obd_some h
      refine h_cVv [.inl v1, .inr (.inr (3, (P 7 0 0 3), 0))] (m_X5_readLand (by omega) hh1) cw_X7_72 dX7_land_36 rfl ok_5 (by decide) rfl (Or.inr rfl) rfl ?_
      refine h_aload_n dX7_land_39 rfl ?_
      refine h_aload_n dX7_land_40 rfl ?_
      refine g_X7_28  dX7_land_41 ?_
      refine g_X7_76  dX7_land_44 ?_
      obtain ⟨I2', e2, h⟩ := bnd_some h
      refine p_X7_54  dX7_land_47 ?_
      refine h_nmI e2 ?_
      refine h_aload_n dX7_land_50 rfl ?_
      refine g_X7_28  dX7_land_51 ?_
      refine g_X7_79  dX7_land_54 ?_
      refine h_if_eq (tgt := 81) dX7_land_57 (by decide) (fun q3 => ?_) (fun q3 => ?_)
      · rw [if_pos q3] at h
        refine h_aload_n dX7_land_81 rfl ?_
        refine g_X7_16  dX7_land_82 ?_
        obtain ⟨g2, h⟩ := gd_some h
        have w2 := of_decide_eq_true g2
        refine h_astore_n dX7_land_85 (by decide) rfl ?_
        refine h_aload_n dX7_land_86 rfl ?_
        refine h_aload_n dX7_land_87 rfl ?_
        refine g_X7_20  dX7_land_88 ?_
        obtain ⟨g3, h⟩ := gd_some h
        have w3 := of_decide_eq_true g3
        obtain ⟨P1', e3, h⟩ := bnd_some h
        refine p_X7_16  dX7_land_91 ?_
        refine h_nmP e3 ?_
        refine h_aload_n dX7_land_94 rfl ?_
        refine h_aload_n dX7_land_95 rfl ?_
        obtain ⟨P2', e4, h⟩ := bnd_some h
        refine p_X7_20  dX7_land_96 ?_
        refine h_nmP e4 ?_
        refine h_aload_n dX7_land_99 rfl ?_
        refine g_X7_35  dX7_land_100 ?_
        refine h_aload_n dX7_land_103 rfl ?_
        refine g_X7_16  dX7_land_104 ?_
        obtain ⟨g4, h⟩ := gd_some h
        have w4 := of_decide_eq_true g4
        obtain ⟨y2, hh2, h⟩ := obd_some h
        refine h_cVv [.inr (.inr (3, (P2' 7 0 0 2), 0))] (m_X0_beginAnew (by decide) (by omega) hh2) cw_X7_86 dX7_land_107 rfl (ok_0 (by decide)) (by decide) rfl (Or.inr rfl) rfl ?_
        refine h_aload_n dX7_land_110 rfl ?_
        refine h_iconst (0 : Int32) dX7_land_111 k_iconst_0 ?_
        obtain ⟨I3', e5, h⟩ := bnd_some h
        refine p_X7_90  rfl dX7_land_112 ?_
        refine h_nmI e5 ?_
        refine h_aload_n dX7_land_115 rfl ?_
        refine h_iconst (0 : Int32) dX7_land_116 k_iconst_0 ?_
        obtain ⟨I4', e6, h⟩ := bnd_some h
        refine p_X7_94  rfl dX7_land_117 ?_
        refine h_nmI e6 ?_
        refine h_iconst (0 : Int32) dX7_land_120 k_iconst_0 ?_
        cases h
        exact h_iret dX7_land_121 rfl E
      · rw [if_neg q3] at h
        refine h_aload_n dX7_land_60 rfl ?_
        refine g_X7_35  dX7_land_61 ?_
        refine g_X7_82 (by decide) dX7_land_64 ?_
        refine h_iconst (0 : Int32) dX7_land_67 k_iconst_0 ?_
        refine h_dup2 dX7_land_68 (fun _ => rfl) (fun _ => rfl) ?_
        refine al_10 (by decide) 0 cl_0 dX7_land_69 rfl ?_
        refine h_iconst (1 : Int32) dX7_land_70 k_iconst_1 ?_
        refine h_iadd dX7_land_71 ?_
        obtain ⟨I5', e7, h⟩ := bnd_some h
        refine as_10 (by decide) 0 cl_0 dX7_land_72 rfl ?_
        refine h_nmI e7 ?_
        refine h_aload_n dX7_land_73 rfl ?_
        refine g_X7_28  dX7_land_74 ?_
        refine g_X7_79  dX7_land_77 ?_
        cases h
        exact h_iret dX7_land_80 rfl E
    · rw [if_neg q2] at h
      exact h_mask [false, false, false] (b_X7_land_12 X Q  h E)
theorem bx_X7_land (X : CX) (Q : State → Prop) {I : Mem} {P : PMem} {O : Nat → Int64} {D : Bool} {n : Nat} {v1 : Int32} {r : Nat}  (h : f_X7_land I P v1 = some (Sum.inr r)) (E : EndX X cX7_land RX7 3 (some .int) 164 (n + 1) r I P O D Q) : Here X cX7_land RX7 3 (some .int) 164 (n + 1) 0 [some (.inr (.inr (7, 0, 0))), some (.inl v1), none] [] I P O D n Q := by
  unfold f_X7_land at h
  refine h_iload_n dX7_land_0 rfl ?_
  refine h_if_lt (tgt := 12) dX7_land_1 (by decide) (fun q1 => ?_) (fun q1 => ?_)
  · rw [if_pos q1] at h
    exact h_mask [false, false, false] (bx_X7_land_12 X Q  h E)
  · rw [if_neg q1] at h
    refine h_iload_n dX7_land_4 rfl ?_
    refine h_aload_n dX7_land_5 rfl ?_
    refine g_X7_58  dX7_land_6 ?_
    refine h_icmp_le (tgt := 22) dX7_land_9 (by decide) (fun q2 => ?_) (fun q2 => ?_)
    · rw [if_pos q2] at h
      refine h_aload_n dX7_land_22 rfl ?_
      refine h_iconst (0 : Int32) dX7_land_23 k_iconst_0 ?_
      obtain ⟨I1', e1, h⟩ := bnd_some h
      refine p_X7_58  dX7_land_24 ?_
      refine h_nmI e1 ?_
      refine h_aload_n dX7_land_27 rfl ?_
      refine g_X7_28  dX7_land_28 ?_
      refine h_iload_n dX7_land_31 rfl ?_
      refine h_aload_n dX7_land_32 rfl ?_
      refine g_X7_20  dX7_land_33 ?_
      obtain ⟨g1, h⟩ := gd_some h
      have w1 := of_decide_eq_true g1
      obtain ⟨y1, hh1, h⟩ := obd_some h
      refine h_cVv [.inl v1, .inr (.inr (3, (P 7 0 0 3), 0))] (m_X5_readLand (by omega) hh1) cw_X7_72 dX7_land_36 rfl ok_5 (by decide) rfl (Or.inr rfl) rfl ?_
      refine h_aload_n dX7_land_39 rfl ?_
      refine h_aload_n dX7_land_40 rfl ?_
      refine g_X7_28  dX7_land_41 ?_
      refine g_X7_76  dX7_land_44 ?_
      obtain ⟨I2', e2, h⟩ := bnd_some h
      refine p_X7_54  dX7_land_47 ?_
      refine h_nmI e2 ?_
      refine h_aload_n dX7_land_50 rfl ?_
      refine g_X7_28  dX7_land_51 ?_
      refine g_X7_79  dX7_land_54 ?_
      refine h_if_eq (tgt := 81) dX7_land_57 (by decide) (fun q3 => ?_) (fun q3 => ?_)
      · rw [if_pos q3] at h
        refine h_aload_n dX7_land_81 rfl ?_
        refine g_X7_16  dX7_land_82 ?_
        obtain ⟨g2, h⟩ := gd_some h
        have w2 := of_decide_eq_true g2
        refine h_astore_n dX7_land_85 (by decide) rfl ?_
        refine h_aload_n dX7_land_86 rfl ?_
        refine h_aload_n dX7_land_87 rfl ?_
        refine g_X7_20  dX7_land_88 ?_
        obtain ⟨g3, h⟩ := gd_some h
        have w3 := of_decide_eq_true g3
        obtain ⟨P1', e3, h⟩ := bnd_some h
        refine p_X7_16  dX7_land_91 ?_
        refine h_nmP e3 ?_
        refine h_aload_n dX7_land_94 rfl ?_
        refine h_aload_n dX7_land_95 rfl ?_
        obtain ⟨P2', e4, h⟩ := bnd_some h
        refine p_X7_20  dX7_land_96 ?_
        refine h_nmP e4 ?_
        refine h_aload_n dX7_land_99 rfl ?_
        refine g_X7_35  dX7_land_100 ?_
        refine h_aload_n dX7_land_103 rfl ?_
        refine g_X7_16  dX7_land_104 ?_
        obtain ⟨g4, h⟩ := gd_some h
        have w4 := of_decide_eq_true g4
        obtain ⟨y2, hh2, h⟩ := obd_some h
        refine h_cVv [.inr (.inr (3, (P2' 7 0 0 2), 0))] (m_X0_beginAnew (by decide) (by omega) hh2) cw_X7_86 dX7_land_107 rfl (ok_0 (by decide)) (by decide) rfl (Or.inr rfl) rfl ?_
        refine h_aload_n dX7_land_110 rfl ?_
        refine h_iconst (0 : Int32) dX7_land_111 k_iconst_0 ?_
        obtain ⟨I3', e5, h⟩ := bnd_some h
        refine p_X7_90  rfl dX7_land_112 ?_
        refine h_nmI e5 ?_
        refine h_aload_n dX7_land_115 rfl ?_
        refine h_iconst (0 : Int32) dX7_land_116 k_iconst_0 ?_
        obtain ⟨I4', e6, h⟩ := bnd_some h
        refine p_X7_94  rfl dX7_land_117 ?_
        refine h_nmI e6 ?_
        refine h_iconst (0 : Int32) dX7_land_120 k_iconst_0 ?_
        cases h
      · rw [if_neg q3] at h
        refine h_aload_n dX7_land_60 rfl ?_
        refine g_X7_35  dX7_land_61 ?_
        refine g_X7_82 (by decide) dX7_land_64 ?_
        refine h_iconst (0 : Int32) dX7_land_67 k_iconst_0 ?_
        refine h_dup2 dX7_land_68 (fun _ => rfl) (fun _ => rfl) ?_
        refine al_10 (by decide) 0 cl_0 dX7_land_69 rfl ?_
        refine h_iconst (1 : Int32) dX7_land_70 k_iconst_1 ?_
        refine h_iadd dX7_land_71 ?_
        obtain ⟨I5', e7, h⟩ := bnd_some h
        refine as_10 (by decide) 0 cl_0 dX7_land_72 rfl ?_
        refine h_nmI e7 ?_
        refine h_aload_n dX7_land_73 rfl ?_
        refine g_X7_28  dX7_land_74 ?_
        refine g_X7_79  dX7_land_77 ?_
        cases h
    · rw [if_neg q2] at h
      exact h_mask [false, false, false] (bx_X7_land_12 X Q  h E)
theorem m_X7_land {I : Mem} {P : PMem} {O : Nat → Int64} {D : Bool} {n : Nat} {v1 : Int32} {r : (Int32 × Mem × PMem)}  (h : f_X7_land I P v1 = some (Sum.inl r)) : MethR yX7_land cX7_land 3 (some .int) 164 [.inr (.inr (7, 0, 0)), .inl v1] I P O D n (some (.inl r.1)) r.2.1 r.2.2 O D n := meth_R (Nat.le_refl _) (by decide) rfl (Nat.le_of_ble_eq_true rfl) rfl (fun X Q E => b_X7_land X Q  h E)
theorem mx_X7_land {I : Mem} {P : PMem} {O : Nat → Int64} {D : Bool} {n : Nat} {v1 : Int32} {r : Nat}  (h : f_X7_land I P v1 = some (Sum.inr r)) : MethX yX7_land cX7_land 3 (some .int) 164 [.inr (.inr (7, 0, 0)), .inl v1] I P O D n r I P O D (n + 1) := meth_X (Nat.le_succ _) (by decide) rfl (Nat.le_of_ble_eq_true rfl) rfl (fun X Q E => bx_X7_land X Q  h E)
def f_X7_fault  (I : Mem)  : Option (Int32) :=
  some (I 7 0 0 11)
theorem b_X7_fault (X : CX) (Q : State → Prop) {I : Mem} {P : PMem} {O : Nat → Int64} {D : Bool} {n : Nat} {r : (Int32)}  (h : f_X7_fault I = some r) (E : EndR X cX7_fault RX7 1 (some .int) 2 n (some (.inl r)) I P O D Q) : Here X cX7_fault RX7 1 (some .int) 2 n 0 [some (.inr (.inr (7, 0, 0)))] [] I P O D n Q := by
  unfold f_X7_fault at h
  refine h_aload_n dX7_fault_0 rfl ?_
  refine g_X7_54  dX7_fault_1 ?_
  cases h
  exact h_iret dX7_fault_4 rfl E
theorem m_X7_fault {I : Mem} {P : PMem} {O : Nat → Int64} {D : Bool} {n : Nat}  {r : (Int32)}  (h : f_X7_fault I = some r) : MethR yX7_fault cX7_fault 1 (some .int) 2 [.inr (.inr (7, 0, 0))] I P O D n (some (.inl r)) I P O D n := meth_R (Nat.le_refl _) (by decide) rfl (Nat.le_of_ble_eq_true rfl) rfl (fun X Q E => b_X7_fault X Q  h E)
