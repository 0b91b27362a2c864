theorem dX5_readProduct_0 : decode cX5_readProduct 0 = .ok (.aload_n 0, 1) := by decide +kernel
theorem dX5_readProduct_1 : decode cX5_readProduct 1 = .ok (.iload_n 1, 1) := by decide +kernel
theorem dX5_readProduct_2 : decode cX5_readProduct 2 = .ok (.invokevirtual 200, 3) := by decide +kernel
theorem dX5_readProduct_5 : decode cX5_readProduct 5 = .ok (.iconst 0, 1) := by decide +kernel
theorem dX5_readProduct_6 : decode cX5_readProduct 6 = .ok (.istore_n 2, 1) := by decide +kernel
theorem dX5_readProduct_7 : decode cX5_readProduct 7 = .ok (.iload_n 2, 1) := by decide +kernel
theorem dX5_readProduct_8 : decode cX5_readProduct 8 = .ok (.sipush 600, 3) := by decide +kernel
theorem dX5_readProduct_11 : decode cX5_readProduct 11 = .ok (.if_icmp .ge 66, 3) := by decide +kernel
theorem dX5_readProduct_14 : decode cX5_readProduct 14 = .ok (.aload_n 0, 1) := by decide +kernel
theorem dX5_readProduct_15 : decode cX5_readProduct 15 = .ok (.bipush 42, 2) := by decide +kernel
theorem dX5_readProduct_17 : decode cX5_readProduct 17 = .ok (.invokevirtual 172, 3) := by decide +kernel
theorem dX5_readProduct_20 : decode cX5_readProduct 20 = .ok (.ifCond .ne 12, 3) := by decide +kernel
theorem dX5_readProduct_23 : decode cX5_readProduct 23 = .ok (.aload_n 0, 1) := by decide +kernel
theorem dX5_readProduct_24 : decode cX5_readProduct 24 = .ok (.bipush 47, 2) := by decide +kernel
theorem dX5_readProduct_26 : decode cX5_readProduct 26 = .ok (.invokevirtual 172, 3) := by decide +kernel
theorem dX5_readProduct_29 : decode cX5_readProduct 29 = .ok (.ifCond .eq 48, 3) := by decide +kernel
theorem dX5_readProduct_32 : decode cX5_readProduct 32 = .ok (.aload_n 0, 1) := by decide +kernel
theorem dX5_readProduct_33 : decode cX5_readProduct 33 = .ok (.bipush 42, 2) := by decide +kernel
theorem dX5_readProduct_35 : decode cX5_readProduct 35 = .ok (.invokevirtual 172, 3) := by decide +kernel
theorem dX5_readProduct_38 : decode cX5_readProduct 38 = .ok (.ifCond .eq 9, 3) := by decide +kernel
theorem dX5_readProduct_41 : decode cX5_readProduct 41 = .ok (.sipush 10012, 3) := by decide +kernel
theorem dX5_readProduct_44 : decode cX5_readProduct 44 = .ok (.goto 6, 3) := by decide +kernel
theorem dX5_readProduct_47 : decode cX5_readProduct 47 = .ok (.sipush 10013, 3) := by decide +kernel
theorem dX5_readProduct_50 : decode cX5_readProduct 50 = .ok (.istore_n 3, 1) := by decide +kernel
theorem dX5_readProduct_51 : decode cX5_readProduct 51 = .ok (.aload_n 0, 1) := by decide +kernel
theorem dX5_readProduct_52 : decode cX5_readProduct 52 = .ok (.invokevirtual 43, 3) := by decide +kernel
theorem dX5_readProduct_55 : decode cX5_readProduct 55 = .ok (.aload_n 0, 1) := by decide +kernel
theorem dX5_readProduct_56 : decode cX5_readProduct 56 = .ok (.iload_n 1, 1) := by decide +kernel
theorem dX5_readProduct_57 : decode cX5_readProduct 57 = .ok (.invokevirtual 200, 3) := by decide +kernel
theorem dX5_readProduct_60 : decode cX5_readProduct 60 = .ok (.aload_n 0, 1) := by decide +kernel
theorem dX5_readProduct_61 : decode cX5_readProduct 61 = .ok (.getfield 19, 3) := by decide +kernel
theorem dX5_readProduct_64 : decode cX5_readProduct 64 = .ok (.getfield 160, 3) := by decide +kernel
theorem dX5_readProduct_67 : decode cX5_readProduct 67 = .ok (.iload_n 3, 1) := by decide +kernel
theorem dX5_readProduct_68 : decode cX5_readProduct 68 = .ok (.invokevirtual 181, 3) := by decide +kernel
theorem dX5_readProduct_71 : decode cX5_readProduct 71 = .ok (.iinc 2 1, 3) := by decide +kernel
theorem dX5_readProduct_74 : decode cX5_readProduct 74 = .ok (.goto (-67), 3) := by decide +kernel
theorem dX5_readProduct_77 : decode cX5_readProduct 77 = .ok (.return_, 1) := by decide +kernel
theorem dX5_readSum_0 : decode cX5_readSum 0 = .ok (.aload_n 0, 1) := by decide +kernel
theorem dX5_readSum_1 : decode cX5_readSum 1 = .ok (.iload_n 1, 1) := by decide +kernel
theorem dX5_readSum_2 : decode cX5_readSum 2 = .ok (.invokevirtual 197, 3) := by decide +kernel
theorem dX5_readSum_5 : decode cX5_readSum 5 = .ok (.iconst 0, 1) := by decide +kernel
theorem dX5_readSum_6 : decode cX5_readSum 6 = .ok (.istore_n 2, 1) := by decide +kernel
theorem dX5_readSum_7 : decode cX5_readSum 7 = .ok (.iload_n 2, 1) := by decide +kernel
theorem dX5_readSum_8 : decode cX5_readSum 8 = .ok (.sipush 600, 3) := by decide +kernel
theorem dX5_readSum_11 : decode cX5_readSum 11 = .ok (.if_icmp .ge 66, 3) := by decide +kernel
theorem dX5_readSum_14 : decode cX5_readSum 14 = .ok (.aload_n 0, 1) := by decide +kernel
theorem dX5_readSum_15 : decode cX5_readSum 15 = .ok (.bipush 43, 2) := by decide +kernel
theorem dX5_readSum_17 : decode cX5_readSum 17 = .ok (.invokevirtual 172, 3) := by decide +kernel
theorem dX5_readSum_20 : decode cX5_readSum 20 = .ok (.ifCond .ne 12, 3) := by decide +kernel
theorem dX5_readSum_23 : decode cX5_readSum 23 = .ok (.aload_n 0, 1) := by decide +kernel
theorem dX5_readSum_24 : decode cX5_readSum 24 = .ok (.bipush 45, 2) := by decide +kernel
theorem dX5_readSum_26 : decode cX5_readSum 26 = .ok (.invokevirtual 172, 3) := by decide +kernel
theorem dX5_readSum_29 : decode cX5_readSum 29 = .ok (.ifCond .eq 48, 3) := by decide +kernel
theorem dX5_readSum_32 : decode cX5_readSum 32 = .ok (.aload_n 0, 1) := by decide +kernel
theorem dX5_readSum_33 : decode cX5_readSum 33 = .ok (.bipush 43, 2) := by decide +kernel
theorem dX5_readSum_35 : decode cX5_readSum 35 = .ok (.invokevirtual 172, 3) := by decide +kernel
theorem dX5_readSum_38 : decode cX5_readSum 38 = .ok (.ifCond .eq 9, 3) := by decide +kernel
theorem dX5_readSum_41 : decode cX5_readSum 41 = .ok (.sipush 10010, 3) := by decide +kernel
theorem dX5_readSum_44 : decode cX5_readSum 44 = .ok (.goto 6, 3) := by decide +kernel
theorem dX5_readSum_47 : decode cX5_readSum 47 = .ok (.sipush 10011, 3) := by decide +kernel
theorem dX5_readSum_50 : decode cX5_readSum 50 = .ok (.istore_n 3, 1) := by decide +kernel
theorem dX5_readSum_51 : decode cX5_readSum 51 = .ok (.aload_n 0, 1) := by decide +kernel
theorem dX5_readSum_52 : decode cX5_readSum 52 = .ok (.invokevirtual 43, 3) := by decide +kernel
theorem dX5_readSum_55 : decode cX5_readSum 55 = .ok (.aload_n 0, 1) := by decide +kernel
theorem dX5_readSum_56 : decode cX5_readSum 56 = .ok (.iload_n 1, 1) := by decide +kernel
theorem dX5_readSum_57 : decode cX5_readSum 57 = .ok (.invokevirtual 197, 3) := by decide +kernel
theorem dX5_readSum_60 : decode cX5_readSum 60 = .ok (.aload_n 0, 1) := by decide +kernel
theorem dX5_readSum_61 : decode cX5_readSum 61 = .ok (.getfield 19, 3) := by decide +kernel
theorem dX5_readSum_64 : decode cX5_readSum 64 = .ok (.getfield 160, 3) := by decide +kernel
theorem dX5_readSum_67 : decode cX5_readSum 67 = .ok (.iload_n 3, 1) := by decide +kernel
theorem dX5_readSum_68 : decode cX5_readSum 68 = .ok (.invokevirtual 181, 3) := by decide +kernel
theorem dX5_readSum_71 : decode cX5_readSum 71 = .ok (.iinc 2 1, 3) := by decide +kernel
theorem dX5_readSum_74 : decode cX5_readSum 74 = .ok (.goto (-67), 3) := by decide +kernel
theorem dX5_readSum_77 : decode cX5_readSum 77 = .ok (.return_, 1) := by decide +kernel
theorem dX5_readTest_0 : decode cX5_readTest 0 = .ok (.aload_n 0, 1) := by decide +kernel
theorem dX5_readTest_1 : decode cX5_readTest 1 = .ok (.iload_n 1, 1) := by decide +kernel
theorem dX5_readTest_2 : decode cX5_readTest 2 = .ok (.invokevirtual 194, 3) := by decide +kernel
theorem dX5_readTest_5 : decode cX5_readTest 5 = .ok (.aload_n 0, 1) := by decide +kernel
theorem dX5_readTest_6 : decode cX5_readTest 6 = .ok (.bipush 60, 2) := by decide +kernel
theorem dX5_readTest_8 : decode cX5_readTest 8 = .ok (.invokevirtual 172, 3) := by decide +kernel
theorem dX5_readTest_11 : decode cX5_readTest 11 = .ok (.ifCond .eq 9, 3) := by decide +kernel
theorem dX5_readTest_14 : decode cX5_readTest 14 = .ok (.sipush 10008, 3) := by decide +kernel
theorem dX5_readTest_17 : decode cX5_readTest 17 = .ok (.goto 19, 3) := by decide +kernel
theorem dX5_readTest_20 : decode cX5_readTest 20 = .ok (.aload_n 0, 1) := by decide +kernel
theorem dX5_readTest_21 : decode cX5_readTest 21 = .ok (.bipush 61, 2) := by decide +kernel
theorem dX5_readTest_23 : decode cX5_readTest 23 = .ok (.invokevirtual 172, 3) := by decide +kernel
theorem dX5_readTest_26 : decode cX5_readTest 26 = .ok (.ifCond .eq 9, 3) := by decide +kernel
theorem dX5_readTest_29 : decode cX5_readTest 29 = .ok (.sipush 10009, 3) := by decide +kernel
theorem dX5_readTest_32 : decode cX5_readTest 32 = .ok (.goto 4, 3) := by decide +kernel
theorem dX5_readTest_35 : decode cX5_readTest 35 = .ok (.iconst (-1), 1) := by decide +kernel
theorem dX5_readTest_36 : decode cX5_readTest 36 = .ok (.istore_n 2, 1) := by decide +kernel
theorem dX5_readTest_37 : decode cX5_readTest 37 = .ok (.iload_n 2, 1) := by decide +kernel
theorem dX5_readTest_38 : decode cX5_readTest 38 = .ok (.iconst (-1), 1) := by decide +kernel
theorem dX5_readTest_39 : decode cX5_readTest 39 = .ok (.if_icmp .eq 23, 3) := by decide +kernel
theorem dX5_readTest_42 : decode cX5_readTest 42 = .ok (.aload_n 0, 1) := by decide +kernel
theorem dX5_readTest_43 : decode cX5_readTest 43 = .ok (.invokevirtual 43, 3) := by decide +kernel
theorem dX5_readTest_46 : decode cX5_readTest 46 = .ok (.aload_n 0, 1) := by decide +kernel
theorem dX5_readTest_47 : decode cX5_readTest 47 = .ok (.iload_n 1, 1) := by decide +kernel
theorem dX5_readTest_48 : decode cX5_readTest 48 = .ok (.invokevirtual 194, 3) := by decide +kernel
theorem dX5_readTest_51 : decode cX5_readTest 51 = .ok (.aload_n 0, 1) := by decide +kernel
theorem dX5_readTest_52 : decode cX5_readTest 52 = .ok (.getfield 19, 3) := by decide +kernel
theorem dX5_readTest_55 : decode cX5_readTest 55 = .ok (.getfield 160, 3) := by decide +kernel
theorem dX5_readTest_58 : decode cX5_readTest 58 = .ok (.iload_n 2, 1) := by decide +kernel
theorem dX5_readTest_59 : decode cX5_readTest 59 = .ok (.invokevirtual 181, 3) := by decide +kernel
theorem dX5_readTest_62 : decode cX5_readTest 62 = .ok (.return_, 1) := by decide +kernel
theorem dX5_readNot_0 : decode cX5_readNot 0 = .ok (.iconst 0, 1) := by decide +kernel
theorem dX5_readNot_1 : decode cX5_readNot 1 = .ok (.istore_n 2, 1) := by decide +kernel
theorem dX5_readNot_2 : decode cX5_readNot 2 = .ok (.iload_n 2, 1) := by decide +kernel
theorem dX5_readNot_3 : decode cX5_readNot 3 = .ok (.bipush 6, 2) := by decide +kernel
theorem dX5_readNot_5 : decode cX5_readNot 5 = .ok (.if_icmp .gt 33, 3) := by decide +kernel
theorem dX5_readNot_8 : decode cX5_readNot 8 = .ok (.aload_n 0, 1) := by decide +kernel
theorem dX5_readNot_9 : decode cX5_readNot 9 = .ok (.ldc 189, 2) := by decide +kernel
theorem dX5_readNot_11 : decode cX5_readNot 11 = .ok (.invokevirtual 57, 3) := by decide +kernel
theorem dX5_readNot_14 : decode cX5_readNot 14 = .ok (.ifCond .eq 24, 3) := by decide +kernel
theorem dX5_readNot_17 : decode cX5_readNot 17 = .ok (.iload_n 2, 1) := by decide +kernel
theorem dX5_readNot_18 : decode cX5_readNot 18 = .ok (.bipush 6, 2) := by decide +kernel
theorem dX5_readNot_20 : decode cX5_readNot 20 = .ok (.if_icmp .ne 8, 3) := by decide +kernel
theorem dX5_readNot_23 : decode cX5_readNot 23 = .ok (.aload_n 0, 1) := by decide +kernel
theorem dX5_readNot_24 : decode cX5_readNot 24 = .ok (.iconst 2, 1) := by decide +kernel
theorem dX5_readNot_25 : decode cX5_readNot 25 = .ok (.invokevirtual 94, 3) := by decide +kernel
theorem dX5_readNot_28 : decode cX5_readNot 28 = .ok (.aload_n 0, 1) := by decide +kernel
theorem dX5_readNot_29 : decode cX5_readNot 29 = .ok (.invokevirtual 43, 3) := by decide +kernel
theorem dX5_readNot_32 : decode cX5_readNot 32 = .ok (.iinc 2 1, 3) := by decide +kernel
theorem dX5_readNot_35 : decode cX5_readNot 35 = .ok (.goto (-33), 3) := by decide +kernel
theorem dX5_readNot_38 : decode cX5_readNot 38 = .ok (.aload_n 0, 1) := by decide +kernel
theorem dX5_readNot_39 : decode cX5_readNot 39 = .ok (.iload_n 1, 1) := by decide +kernel
theorem dX5_readNot_40 : decode cX5_readNot 40 = .ok (.invokevirtual 191, 3) := by decide +kernel
theorem dX5_readNot_43 : decode cX5_readNot 43 = .ok (.iconst 0, 1) := by decide +kernel
theorem dX5_readNot_44 : decode cX5_readNot 44 = .ok (.istore_n 3, 1) := by decide +kernel
theorem dX5_readNot_45 : decode cX5_readNot 45 = .ok (.iload_n 3, 1) := by decide +kernel
theorem dX5_readNot_46 : decode cX5_readNot 46 = .ok (.iload_n 2, 1) := by decide +kernel
theorem dX5_readNot_47 : decode cX5_readNot 47 = .ok (.if_icmp .ge 22, 3) := by decide +kernel
theorem dX5_readNot_50 : decode cX5_readNot 50 = .ok (.aload_n 0, 1) := by decide +kernel
theorem dX5_readNot_51 : decode cX5_readNot 51 = .ok (.getfield 19, 3) := by decide +kernel
theorem dX5_readNot_54 : decode cX5_readNot 54 = .ok (.getfield 160, 3) := by decide +kernel
theorem dX5_readNot_57 : decode cX5_readNot 57 = .ok (.sipush 10007, 3) := by decide +kernel
theorem dX5_readNot_60 : decode cX5_readNot 60 = .ok (.invokevirtual 181, 3) := by decide +kernel
theorem dX5_readNot_63 : decode cX5_readNot 63 = .ok (.iinc 3 1, 3) := by decide +kernel
theorem dX5_readNot_66 : decode cX5_readNot 66 = .ok (.goto (-21), 3) := by decide +kernel
theorem dX5_readNot_69 : decode cX5_readNot 69 = .ok (.return_, 1) := by decide +kernel
theorem dX5_readAnd_0 : decode cX5_readAnd 0 = .ok (.aload_n 0, 1) := by decide +kernel
theorem dX5_readAnd_1 : decode cX5_readAnd 1 = .ok (.iload_n 1, 1) := by decide +kernel
theorem dX5_readAnd_2 : decode cX5_readAnd 2 = .ok (.invokevirtual 184, 3) := by decide +kernel
theorem dX5_readAnd_5 : decode cX5_readAnd 5 = .ok (.iconst 0, 1) := by decide +kernel
theorem dX5_readAnd_6 : decode cX5_readAnd 6 = .ok (.istore_n 2, 1) := by decide +kernel
theorem dX5_readAnd_7 : decode cX5_readAnd 7 = .ok (.iload_n 2, 1) := by decide +kernel
theorem dX5_readAnd_8 : decode cX5_readAnd 8 = .ok (.sipush 600, 3) := by decide +kernel
theorem dX5_readAnd_11 : decode cX5_readAnd 11 = .ok (.if_icmp .ge 40, 3) := by decide +kernel
theorem dX5_readAnd_14 : decode cX5_readAnd 14 = .ok (.aload_n 0, 1) := by decide +kernel
theorem dX5_readAnd_15 : decode cX5_readAnd 15 = .ok (.ldc 187, 2) := by decide +kernel
theorem dX5_readAnd_17 : decode cX5_readAnd 17 = .ok (.invokevirtual 57, 3) := by decide +kernel
theorem dX5_readAnd_20 : decode cX5_readAnd 20 = .ok (.ifCond .eq 31, 3) := by decide +kernel
theorem dX5_readAnd_23 : decode cX5_readAnd 23 = .ok (.aload_n 0, 1) := by decide +kernel
theorem dX5_readAnd_24 : decode cX5_readAnd 24 = .ok (.invokevirtual 43, 3) := by decide +kernel
theorem dX5_readAnd_27 : decode cX5_readAnd 27 = .ok (.aload_n 0, 1) := by decide +kernel
theorem dX5_readAnd_28 : decode cX5_readAnd 28 = .ok (.iload_n 1, 1) := by decide +kernel
theorem dX5_readAnd_29 : decode cX5_readAnd 29 = .ok (.invokevirtual 184, 3) := by decide +kernel
theorem dX5_readAnd_32 : decode cX5_readAnd 32 = .ok (.aload_n 0, 1) := by decide +kernel
theorem dX5_readAnd_33 : decode cX5_readAnd 33 = .ok (.getfield 19, 3) := by decide +kernel
theorem dX5_readAnd_36 : decode cX5_readAnd 36 = .ok (.getfield 160, 3) := by decide +kernel
theorem dX5_readAnd_39 : decode cX5_readAnd 39 = .ok (.sipush 10006, 3) := by decide +kernel
theorem dX5_readAnd_42 : decode cX5_readAnd 42 = .ok (.invokevirtual 181, 3) := by decide +kernel
theorem dX5_readAnd_45 : decode cX5_readAnd 45 = .ok (.iinc 2 1, 3) := by decide +kernel
theorem dX5_readAnd_48 : decode cX5_readAnd 48 = .ok (.goto (-41), 3) := by decide +kernel
theorem dX5_readAnd_51 : decode cX5_readAnd 51 = .ok (.return_, 1) := by decide +kernel
theorem dX5_readExpr_0 : decode cX5_readExpr 0 = .ok (.iload_n 1, 1) := by decide +kernel
theorem dX5_readExpr_1 : decode cX5_readExpr 1 = .ok (.bipush 6, 2) := by decide +kernel
theorem dX5_readExpr_3 : decode cX5_readExpr 3 = .ok (.if_icmp .lt 38, 3) := by decide +kernel
theorem dX5_readExpr_6 : decode cX5_readExpr 6 = .ok (.aload_n 0, 1) := by decide +kernel
theorem dX5_readExpr_7 : decode cX5_readExpr 7 = .ok (.aload_n 0, 1) := by decide +kernel
theorem dX5_readExpr_8 : decode cX5_readExpr 8 = .ok (.getfield 46, 3) := by decide +kernel
theorem dX5_readExpr_11 : decode cX5_readExpr 11 = .ok (.iconst 2, 1) := by decide +kernel
theorem dX5_readExpr_12 : decode cX5_readExpr 12 = .ok (.if_icmp .eq 20, 3) := by decide +kernel
theorem dX5_readExpr_15 : decode cX5_readExpr 15 = .ok (.aload_n 0, 1) := by decide +kernel
theorem dX5_readExpr_16 : decode cX5_readExpr 16 = .ok (.getfield 46, 3) := by decide +kernel
theorem dX5_readExpr_19 : decode cX5_readExpr 19 = .ok (.iconst 1, 1) := by decide +kernel
theorem dX5_readExpr_20 : decode cX5_readExpr 20 = .ok (.if_icmp .eq 12, 3) := by decide +kernel
theorem dX5_readExpr_23 : decode cX5_readExpr 23 = .ok (.aload_n 0, 1) := by decide +kernel
theorem dX5_readExpr_24 : decode cX5_readExpr 24 = .ok (.bipush 40, 2) := by decide +kernel
theorem dX5_readExpr_26 : decode cX5_readExpr 26 = .ok (.invokevirtual 172, 3) := by decide +kernel
theorem dX5_readExpr_29 : decode cX5_readExpr 29 = .ok (.ifCond .eq 7, 3) := by decide +kernel
theorem dX5_readExpr_32 : decode cX5_readExpr 32 = .ok (.iconst 2, 1) := by decide +kernel
theorem dX5_readExpr_33 : decode cX5_readExpr 33 = .ok (.goto 4, 3) := by decide +kernel
theorem dX5_readExpr_36 : decode cX5_readExpr 36 = .ok (.iconst 1, 1) := by decide +kernel
theorem dX5_readExpr_37 : decode cX5_readExpr 37 = .ok (.invokevirtual 94, 3) := by decide +kernel
theorem dX5_readExpr_40 : decode cX5_readExpr 40 = .ok (.return_, 1) := by decide +kernel
theorem dX5_readExpr_41 : decode cX5_readExpr 41 = .ok (.aload_n 0, 1) := by decide +kernel
theorem dX5_readExpr_42 : decode cX5_readExpr 42 = .ok (.iload_n 1, 1) := by decide +kernel
theorem dX5_readExpr_43 : decode cX5_readExpr 43 = .ok (.invokevirtual 176, 3) := by decide +kernel
theorem dX5_readExpr_46 : decode cX5_readExpr 46 = .ok (.iconst 0, 1) := by decide +kernel
theorem dX5_readExpr_47 : decode cX5_readExpr 47 = .ok (.istore_n 2, 1) := by decide +kernel
theorem dX5_readExpr_48 : decode cX5_readExpr 48 = .ok (.iload_n 2, 1) := by decide +kernel
theorem dX5_readExpr_49 : decode cX5_readExpr 49 = .ok (.sipush 600, 3) := by decide +kernel
theorem dX5_readExpr_52 : decode cX5_readExpr 52 = .ok (.if_icmp .ge 40, 3) := by decide +kernel
theorem dX5_readExpr_55 : decode cX5_readExpr 55 = .ok (.aload_n 0, 1) := by decide +kernel
theorem dX5_readExpr_56 : decode cX5_readExpr 56 = .ok (.ldc 179, 2) := by decide +kernel
theorem dX5_readExpr_58 : decode cX5_readExpr 58 = .ok (.invokevirtual 57, 3) := by decide +kernel
theorem dX5_readExpr_61 : decode cX5_readExpr 61 = .ok (.ifCond .eq 31, 3) := by decide +kernel
theorem dX5_readExpr_64 : decode cX5_readExpr 64 = .ok (.aload_n 0, 1) := by decide +kernel
theorem dX5_readExpr_65 : decode cX5_readExpr 65 = .ok (.invokevirtual 43, 3) := by decide +kernel
theorem dX5_readExpr_68 : decode cX5_readExpr 68 = .ok (.aload_n 0, 1) := by decide +kernel
theorem dX5_readExpr_69 : decode cX5_readExpr 69 = .ok (.iload_n 1, 1) := by decide +kernel
theorem dX5_readExpr_70 : decode cX5_readExpr 70 = .ok (.invokevirtual 176, 3) := by decide +kernel
theorem dX5_readExpr_73 : decode cX5_readExpr 73 = .ok (.aload_n 0, 1) := by decide +kernel
theorem dX5_readExpr_74 : decode cX5_readExpr 74 = .ok (.getfield 19, 3) := by decide +kernel
theorem dX5_readExpr_77 : decode cX5_readExpr 77 = .ok (.getfield 160, 3) := by decide +kernel
theorem dX5_readExpr_80 : decode cX5_readExpr 80 = .ok (.sipush 10005, 3) := by decide +kernel
theorem dX5_readExpr_83 : decode cX5_readExpr 83 = .ok (.invokevirtual 181, 3) := by decide +kernel
theorem dX5_readExpr_86 : decode cX5_readExpr 86 = .ok (.iinc 2 1, 3) := by decide +kernel
theorem dX5_readExpr_89 : decode cX5_readExpr 89 = .ok (.goto (-41), 3) := by decide +kernel
theorem dX5_readExpr_92 : decode cX5_readExpr 92 = .ok (.return_, 1) := by decide +kernel
theorem dX5_readLaw_0 : decode cX5_readLaw 0 = .ok (.aload_n 0, 1) := by decide +kernel
theorem dX5_readLaw_1 : decode cX5_readLaw 1 = .ok (.getfield 19, 3) := by decide +kernel
theorem dX5_readLaw_4 : decode cX5_readLaw 4 = .ok (.getfield 160, 3) := by decide +kernel
theorem dX5_readLaw_7 : decode cX5_readLaw 7 = .ok (.invokevirtual 163, 3) := by decide +kernel
theorem dX5_readLaw_10 : decode cX5_readLaw 10 = .ok (.ifCond .eq 9, 3) := by decide +kernel
theorem dX5_readLaw_13 : decode cX5_readLaw 13 = .ok (.aload_n 0, 1) := by decide +kernel
theorem dX5_readLaw_14 : decode cX5_readLaw 14 = .ok (.iconst 5, 1) := by decide +kernel
theorem dX5_readLaw_15 : decode cX5_readLaw 15 = .ok (.invokevirtual 94, 3) := by decide +kernel
theorem dX5_readLaw_18 : decode cX5_readLaw 18 = .ok (.return_, 1) := by decide +kernel
theorem dX5_readLaw_19 : decode cX5_readLaw 19 = .ok (.aload_n 0, 1) := by decide +kernel
theorem dX5_readLaw_20 : decode cX5_readLaw 20 = .ok (.invokevirtual 43, 3) := by decide +kernel
theorem dX5_readLaw_23 : decode cX5_readLaw 23 = .ok (.aload_n 0, 1) := by decide +kernel
theorem dX5_readLaw_24 : decode cX5_readLaw 24 = .ok (.iconst 0, 1) := by decide +kernel
theorem dX5_readLaw_25 : decode cX5_readLaw 25 = .ok (.invokevirtual 169, 3) := by decide +kernel
theorem dX5_readLaw_28 : decode cX5_readLaw 28 = .ok (.return_, 1) := by decide +kernel
theorem dX5_readLine_0 : decode cX5_readLine 0 = .ok (.aload_n 0, 1) := by decide +kernel
theorem dX5_readLine_1 : decode cX5_readLine 1 = .ok (.ldc 55, 2) := by decide +kernel
theorem dX5_readLine_3 : decode cX5_readLine 3 = .ok (.invokevirtual 57, 3) := by decide +kernel
theorem dX5_readLine_6 : decode cX5_readLine 6 = .ok (.ifCond .eq 10, 3) := by decide +kernel
theorem dX5_readLine_9 : decode cX5_readLine 9 = .ok (.aload_n 0, 1) := by decide +kernel
theorem dX5_readLine_10 : decode cX5_readLine 10 = .ok (.invokevirtual 61, 3) := by decide +kernel
theorem dX5_readLine_13 : decode cX5_readLine 13 = .ok (.goto 123, 3) := by decide +kernel
theorem dX5_readLine_16 : decode cX5_readLine 16 = .ok (.aload_n 0, 1) := by decide +kernel
theorem dX5_readLine_17 : decode cX5_readLine 17 = .ok (.ldc 64, 2) := by decide +kernel
theorem dX5_readLine_19 : decode cX5_readLine 19 = .ok (.invokevirtual 57, 3) := by decide +kernel
theorem dX5_readLine_22 : decode cX5_readLine 22 = .ok (.ifCond .eq 10, 3) := by decide +kernel
theorem dX5_readLine_25 : decode cX5_readLine 25 = .ok (.aload_n 0, 1) := by decide +kernel
theorem dX5_readLine_26 : decode cX5_readLine 26 = .ok (.invokevirtual 66, 3) := by decide +kernel
theorem dX5_readLine_29 : decode cX5_readLine 29 = .ok (.goto 107, 3) := by decide +kernel
theorem dX5_readLine_32 : decode cX5_readLine 32 = .ok (.aload_n 0, 1) := by decide +kernel
theorem dX5_readLine_33 : decode cX5_readLine 33 = .ok (.ldc 69, 2) := by decide +kernel
theorem dX5_readLine_35 : decode cX5_readLine 35 = .ok (.invokevirtual 57, 3) := by decide +kernel
theorem dX5_readLine_38 : decode cX5_readLine 38 = .ok (.ifCond .eq 10, 3) := by decide +kernel
theorem dX5_readLine_41 : decode cX5_readLine 41 = .ok (.aload_n 0, 1) := by decide +kernel
theorem dX5_readLine_42 : decode cX5_readLine 42 = .ok (.invokevirtual 71, 3) := by decide +kernel
theorem dX5_readLine_45 : decode cX5_readLine 45 = .ok (.goto 91, 3) := by decide +kernel
theorem dX5_readLine_48 : decode cX5_readLine 48 = .ok (.aload_n 0, 1) := by decide +kernel
theorem dX5_readLine_49 : decode cX5_readLine 49 = .ok (.ldc 74, 2) := by decide +kernel
theorem dX5_readLine_51 : decode cX5_readLine 51 = .ok (.invokevirtual 57, 3) := by decide +kernel
theorem dX5_readLine_54 : decode cX5_readLine 54 = .ok (.ifCond .eq 11, 3) := by decide +kernel
theorem dX5_readLine_57 : decode cX5_readLine 57 = .ok (.aload_n 0, 1) := by decide +kernel
theorem dX5_readLine_58 : decode cX5_readLine 58 = .ok (.iconst 0, 1) := by decide +kernel
theorem dX5_readLine_59 : decode cX5_readLine 59 = .ok (.invokevirtual 76, 3) := by decide +kernel
theorem dX5_readLine_62 : decode cX5_readLine 62 = .ok (.goto 74, 3) := by decide +kernel
theorem dX5_readLine_65 : decode cX5_readLine 65 = .ok (.aload_n 0, 1) := by decide +kernel
theorem dX5_readLine_66 : decode cX5_readLine 66 = .ok (.ldc 80, 2) := by decide +kernel
theorem dX5_readLine_68 : decode cX5_readLine 68 = .ok (.invokevirtual 57, 3) := by decide +kernel
theorem dX5_readLine_71 : decode cX5_readLine 71 = .ok (.ifCond .eq 11, 3) := by decide +kernel
theorem dX5_readLine_74 : decode cX5_readLine 74 = .ok (.aload_n 0, 1) := by decide +kernel
theorem dX5_readLine_75 : decode cX5_readLine 75 = .ok (.iconst 1, 1) := by decide +kernel
theorem dX5_readLine_76 : decode cX5_readLine 76 = .ok (.invokevirtual 76, 3) := by decide +kernel
theorem dX5_readLine_79 : decode cX5_readLine 79 = .ok (.goto 57, 3) := by decide +kernel
theorem dX5_readLine_82 : decode cX5_readLine 82 = .ok (.aload_n 0, 1) := by decide +kernel
theorem dX5_readLine_83 : decode cX5_readLine 83 = .ok (.ldc 82, 2) := by decide +kernel
theorem dX5_readLine_85 : decode cX5_readLine 85 = .ok (.invokevirtual 57, 3) := by decide +kernel
theorem dX5_readLine_88 : decode cX5_readLine 88 = .ok (.ifCond .eq 11, 3) := by decide +kernel
theorem dX5_readLine_91 : decode cX5_readLine 91 = .ok (.aload_n 0, 1) := by decide +kernel
theorem dX5_readLine_92 : decode cX5_readLine 92 = .ok (.iconst 2, 1) := by decide +kernel
theorem dX5_readLine_93 : decode cX5_readLine 93 = .ok (.invokevirtual 76, 3) := by decide +kernel
theorem dX5_readLine_96 : decode cX5_readLine 96 = .ok (.goto 40, 3) := by decide +kernel
theorem dX5_readLine_99 : decode cX5_readLine 99 = .ok (.aload_n 0, 1) := by decide +kernel
theorem dX5_readLine_100 : decode cX5_readLine 100 = .ok (.ldc 84, 2) := by decide +kernel
theorem dX5_readLine_102 : decode cX5_readLine 102 = .ok (.invokevirtual 57, 3) := by decide +kernel
theorem dX5_readLine_105 : decode cX5_readLine 105 = .ok (.ifCond .eq 10, 3) := by decide +kernel
theorem dX5_readLine_108 : decode cX5_readLine 108 = .ok (.aload_n 0, 1) := by decide +kernel
theorem dX5_readLine_109 : decode cX5_readLine 109 = .ok (.invokevirtual 86, 3) := by decide +kernel
theorem dX5_readLine_112 : decode cX5_readLine 112 = .ok (.goto 24, 3) := by decide +kernel
theorem dX5_readLine_115 : decode cX5_readLine 115 = .ok (.aload_n 0, 1) := by decide +kernel
theorem dX5_readLine_116 : decode cX5_readLine 116 = .ok (.ldc 89, 2) := by decide +kernel
theorem dX5_readLine_118 : decode cX5_readLine 118 = .ok (.invokevirtual 57, 3) := by decide +kernel
theorem dX5_readLine_121 : decode cX5_readLine 121 = .ok (.ifCond .eq 10, 3) := by decide +kernel
theorem dX5_readLine_124 : decode cX5_readLine 124 = .ok (.aload_n 0, 1) := by decide +kernel
theorem dX5_readLine_125 : decode cX5_readLine 125 = .ok (.invokevirtual 91, 3) := by decide +kernel
theorem dX5_readLine_128 : decode cX5_readLine 128 = .ok (.goto 8, 3) := by decide +kernel
theorem dX5_readLine_131 : decode cX5_readLine 131 = .ok (.aload_n 0, 1) := by decide +kernel
theorem dX5_readLine_132 : decode cX5_readLine 132 = .ok (.iconst 1, 1) := by decide +kernel
theorem dX5_readLine_133 : decode cX5_readLine 133 = .ok (.invokevirtual 94, 3) := by decide +kernel
theorem dX5_readLine_136 : decode cX5_readLine 136 = .ok (.aload_n 0, 1) := by decide +kernel
theorem dX5_readLine_137 : decode cX5_readLine 137 = .ok (.bipush 59, 2) := by decide +kernel
theorem dX5_readLine_139 : decode cX5_readLine 139 = .ok (.invokevirtual 97, 3) := by decide +kernel
theorem dX5_readLine_142 : decode cX5_readLine 142 = .ok (.return_, 1) := by decide +kernel
def f_X5_readProduct_50 (rc : PMem → Mem → Int32 → Option ((Mem) ⊕ Nat)) (k7 : Mem → Int32 → Int32 → Option ((Mem) ⊕ Nat)) (P : PMem) (I : Mem) (v1 : Int32) (v2 : Int32) (s0 : Int32) : Option ((Mem) ⊕ Nat) :=
  (f_X5_advance I).bind fun y1 =>
  thb (f_X5_readPart rc P y1 v1) fun y2 =>
  gd (decide ((P 5 0 0 4) < 2)) <|
  (f_X4_add (P 5 0 0 4) y2 s0).bind fun y3 =>
  k7 y3 v1 (v2 + (1 : Int32))
theorem b_X5_readProduct_50 (X : CX) (Q : State → Prop) (rc : PMem → Mem → Int32 → Option ((Mem) ⊕ Nat)) (dr : Nat) (Hrc : ∀ {I : Mem} {P : PMem} {O : Nat → Int64} {D : Bool} {n : Nat} {v1 : Int32} {r : (Mem)}, rc P I v1 = some r → MethR yX5_readExpr cX5_readExpr 3 (none) dr [.inr (.inr (5, 0, 0)), .inl v1] I P O D n none r P O D n) {d : Nat} (hd : dr + 12 ≤ d) {I : Mem} {P : PMem} {O : Nat → Int64} {D : Bool} {n : Nat} {k7 : Mem → Int32 → Int32 → Option ((Mem) ⊕ Nat)} {v1 : Int32} {v2 : Int32} {s0 : Int32} {r : (Mem)}  (H7 : ∀ (I : Mem) (v1 : Int32) (v2 : Int32), k7 I v1 v2 = some (Sum.inl r) → Here X cX5_readProduct RX5 4 (none) d n 7 [some (.inr (.inr (5, 0, 0))), some (.inl v1), some (.inl v2), none] [] I P O D n Q) (h : f_X5_readProduct_50 rc k7 P I v1 v2 s0 = some (Sum.inl r)) (E : EndR X cX5_readProduct RX5 4 (none) d n none r P O D Q) : Here X cX5_readProduct RX5 4 (none) d n 50 [some (.inr (.inr (5, 0, 0))), some (.inl v1), some (.inl v2), none] [.inl s0] I P O D n Q := by
  unfold f_X5_readProduct_50 at h
  refine h_istore_n dX5_readProduct_50 (by decide) rfl ?_
  refine h_aload_n dX5_readProduct_51 rfl ?_
  obtain ⟨y1, hh1, h⟩ := obd_some h
  refine h_cVv [] (m_X5_advance  hh1) cw_X5_43 dX5_readProduct_52 rfl ok_5 (by omega) rfl (Or.inr rfl) rfl ?_
  refine h_aload_n dX5_readProduct_55 rfl ?_
  refine h_iload_n dX5_readProduct_56 rfl ?_
  obtain ⟨y2, hh2, h⟩ := thb_R h
  refine h_cVv [.inl v1] (m_X5_readPart (d := d - 1) rc dr Hrc (by omega)  hh2) cw_X5_200 dX5_readProduct_57 rfl ok_5 (by omega) rfl (Or.inr rfl) rfl ?_
  refine h_aload_n dX5_readProduct_60 rfl ?_
  refine g_X5_19  dX5_readProduct_61 ?_
  obtain ⟨g1, h⟩ := gd_some h
  have w1 := of_decide_eq_true g1
  refine g_X5_160 (by omega) dX5_readProduct_64 ?_
  refine h_iload_n dX5_readProduct_67 rfl ?_
  obtain ⟨y3, hh3, h⟩ := obd_some h
  refine h_cVv [.inl s0] (m_X4_add (by omega) hh3) cw_X5_181 dX5_readProduct_68 rfl (ok_4 (by omega)) (by omega) rfl (Or.inr rfl) rfl ?_
  refine h_iinc (1 : Int32) dX5_readProduct_71 rfl k_iinc_1 (by decide) rfl ?_
  refine h_goto (tgt := 7) dX5_readProduct_74 (by decide) ?_
  exact h_mask [true, true, true, false] (H7 _ _ _ h)
theorem bx_X5_readProduct_50 (X : CX) (Q : State → Prop) (rc : PMem → Mem → Int32 → Option ((Mem) ⊕ Nat)) (dr : Nat) (Hrc : ∀ {I : Mem} {P : PMem} {O : Nat → Int64} {D : Bool} {n : Nat} {v1 : Int32} {r : (Mem)}, rc P I v1 = some r → MethR yX5_readExpr cX5_readExpr 3 (none) dr [.inr (.inr (5, 0, 0)), .inl v1] I P O D n none r P O D n) {d : Nat} (hd : dr + 12 ≤ d) {I : Mem} {P : PMem} {O : Nat → Int64} {D : Bool} {n : Nat} {k7 : Mem → Int32 → Int32 → Option ((Mem) ⊕ Nat)} {v1 : Int32} {v2 : Int32} {s0 : Int32} {r : Nat}  (H7 : ∀ (I : Mem) (v1 : Int32) (v2 : Int32), k7 I v1 v2 = some (Sum.inr r) → Here X cX5_readProduct RX5 4 (none) d (n + 1) 7 [some (.inr (.inr (5, 0, 0))), some (.inl v1), some (.inl v2), none] [] I P O D n Q) (h : f_X5_readProduct_50 rc k7 P I v1 v2 s0 = some (Sum.inr r)) (E : EndX X cX5_readProduct RX5 4 (none) d (n + 1) r I P O D Q) : Here X cX5_readProduct RX5 4 (none) d (n + 1) 50 [some (.inr (.inr (5, 0, 0))), some (.inl v1), some (.inl v2), none] [.inl s0] I P O D n Q := by
  unfold f_X5_readProduct_50 at h
  refine h_istore_n dX5_readProduct_50 (by decide) rfl ?_
  refine h_aload_n dX5_readProduct_51 rfl ?_
  obtain ⟨y1, hh1, h⟩ := obd_some h
  refine h_cVv [] (m_X5_advance  hh1) cw_X5_43 dX5_readProduct_52 rfl ok_5 (by omega) rfl (Or.inr rfl) rfl ?_
  refine h_aload_n dX5_readProduct_55 rfl ?_
  refine h_iload_n dX5_readProduct_56 rfl ?_
  rcases thb_X h with hh2 | ⟨y2, hh2, h⟩
  · exact h_callVX (as := [.inl v1]) (mx_X5_readPart  hh2) cw_X5_200 dX5_readProduct_57 rfl ok_5 (by omega) rfl rfl E
  refine h_cVv [.inl v1] (m_X5_readPart (d := d - 1) rc dr Hrc (by omega)  hh2) cw_X5_200 dX5_readProduct_57 rfl ok_5 (by omega) rfl (Or.inr rfl) rfl ?_
  refine h_aload_n dX5_readProduct_60 rfl ?_
  refine g_X5_19  dX5_readProduct_61 ?_
  obtain ⟨g1, h⟩ := gd_some h
  have w1 := of_decide_eq_true g1
  refine g_X5_160 (by omega) dX5_readProduct_64 ?_
  refine h_iload_n dX5_readProduct_67 rfl ?_
  obtain ⟨y3, hh3, h⟩ := obd_some h
  refine h_cVv [.inl s0] (m_X4_add (by omega) hh3) cw_X5_181 dX5_readProduct_68 rfl (ok_4 (by omega)) (by omega) rfl (Or.inr rfl) rfl ?_
  refine h_iinc (1 : Int32) dX5_readProduct_71 rfl k_iinc_1 (by decide) rfl ?_
  refine h_goto (tgt := 7) dX5_readProduct_74 (by decide) ?_
  exact h_mask [true, true, true, false] (H7 _ _ _ h)
def f_X5_readProduct_32 (rc : PMem → Mem → Int32 → Option ((Mem) ⊕ Nat)) (k7 : Mem → Int32 → Int32 → Option ((Mem) ⊕ Nat)) (P : PMem) (I : Mem) (v1 : Int32) (v2 : Int32) : Option ((Mem) ⊕ Nat) :=
  (f_X5_isSign I (42 : Int32)).bind fun y1 =>
  if y1 = 0 then (f_X5_readProduct_50 rc k7 P I v1 v2 (10013 : Int32)) else (f_X5_readProduct_50 rc k7 P I v1 v2 (10012 : Int32))
theorem b_X5_readProduct_32 (X : CX) (Q : State → Prop) (rc : PMem → Mem → Int32 → Option ((Mem) ⊕ Nat)) (dr : Nat) (Hrc : ∀ {I : Mem} {P : PMem} {O : Nat → Int64} {D : Bool} {n : Nat} {v1 : Int32} {r : (Mem)}, rc P I v1 = some r → MethR yX5_readExpr cX5_readExpr 3 (none) dr [.inr (.inr (5, 0, 0)), .inl v1] I P O D n none r P O D n) {d : Nat} (hd : dr + 12 ≤ d) {I : Mem} {P : PMem} {O : Nat → Int64} {D : Bool} {n : Nat} {k7 : Mem → Int32 → Int32 → Option ((Mem) ⊕ Nat)} {v1 : Int32} {v2 : Int32} {r : (Mem)}  (H7 : ∀ (I : Mem) (v1 : Int32) (v2 : Int32), k7 I v1 v2 = some (Sum.inl r) → Here X cX5_readProduct RX5 4 (none) d n 7 [some (.inr (.inr (5, 0, 0))), some (.inl v1), some (.inl v2), none] [] I P O D n Q) (h : f_X5_readProduct_32 rc k7 P I v1 v2 = some (Sum.inl r)) (E : EndR X cX5_readProduct RX5 4 (none) d n none r P O D Q) : Here X cX5_readProduct RX5 4 (none) d n 32 [some (.inr (.inr (5, 0, 0))), some (.inl v1), some (.inl v2), none] [] I P O D n Q := by
  unfold f_X5_readProduct_32 at h
  refine h_aload_n dX5_readProduct_32 rfl ?_
  refine h_bipush (42 : Int32) dX5_readProduct_33 k_bipush_42 ?_
  obtain ⟨y1, hh1, h⟩ := obd_some h
  refine h_cVi [.inl (42 : Int32)] (m_X5_isSign  hh1) cw_X5_172 dX5_readProduct_35 rfl ok_5 (by omega) rfl (Or.inr rfl) rfl ?_
  refine h_if_eq (tgt := 47) dX5_readProduct_38 (by decide) (fun q1 => ?_) (fun q1 => ?_)
  · rw [if_pos q1] at h
    refine h_sipush (10013 : Int32) dX5_readProduct_47 k_sipush_10013 ?_
    exact (b_X5_readProduct_50 X Q rc dr Hrc hd H7  h E)
  · rw [if_neg q1] at h
    refine h_sipush (10012 : Int32) dX5_readProduct_41 k_sipush_10012 ?_
    refine h_goto (tgt := 50) dX5_readProduct_44 (by decide) ?_
    exact (b_X5_readProduct_50 X Q rc dr Hrc hd H7  h E)
theorem bx_X5_readProduct_32 (X : CX) (Q : State → Prop) (rc : PMem → Mem → Int32 → Option ((Mem) ⊕ Nat)) (dr : Nat) (Hrc : ∀ {I : Mem} {P : PMem} {O : Nat → Int64} {D : Bool} {n : Nat} {v1 : Int32} {r : (Mem)}, rc P I v1 = some r → MethR yX5_readExpr cX5_readExpr 3 (none) dr [.inr (.inr (5, 0, 0)), .inl v1] I P O D n none r P O D n) {d : Nat} (hd : dr + 12 ≤ d) {I : Mem} {P : PMem} {O : Nat → Int64} {D : Bool} {n : Nat} {k7 : Mem → Int32 → Int32 → Option ((Mem) ⊕ Nat)} {v1 : Int32} {v2 : Int32} {r : Nat}  (H7 : ∀ (I : Mem) (v1 : Int32) (v2 : Int32), k7 I v1 v2 = some (Sum.inr r) → Here X cX5_readProduct RX5 4 (none) d (n + 1) 7 [some (.inr (.inr (5, 0, 0))), some (.inl v1), some (.inl v2), none] [] I P O D n Q) (h : f_X5_readProduct_32 rc k7 P I v1 v2 = some (Sum.inr r)) (E : EndX X cX5_readProduct RX5 4 (none) d (n + 1) r I P O D Q) : Here X cX5_readProduct RX5 4 (none) d (n + 1) 32 [some (.inr (.inr (5, 0, 0))), some (.inl v1), some (.inl v2), none] [] I P O D n Q := by
  unfold f_X5_readProduct_32 at h
  refine h_aload_n dX5_readProduct_32 rfl ?_
  refine h_bipush (42 : Int32) dX5_readProduct_33 k_bipush_42 ?_
  obtain ⟨y1, hh1, h⟩ := obd_some h
  refine h_cVi [.inl (42 : Int32)] (m_X5_isSign  hh1) cw_X5_172 dX5_readProduct_35 rfl ok_5 (by omega) rfl (Or.inr rfl) rfl ?_
  refine h_if_eq (tgt := 47) dX5_readProduct_38 (by decide) (fun q1 => ?_) (fun q1 => ?_)
  · rw [if_pos q1] at h
    refine h_sipush (10013 : Int32) dX5_readProduct_47 k_sipush_10013 ?_
    exact (bx_X5_readProduct_50 X Q rc dr Hrc hd H7  h E)
  · rw [if_neg q1] at h
    refine h_sipush (10012 : Int32) dX5_readProduct_41 k_sipush_10012 ?_
    refine h_goto (tgt := 50) dX5_readProduct_44 (by decide) ?_
    exact (bx_X5_readProduct_50 X Q rc dr Hrc hd H7  h E)
def f_X5_readProduct_7 (rc : PMem → Mem → Int32 → Option ((Mem) ⊕ Nat))  (P : PMem) : Nat → Mem → Int32 → Int32 → Option ((Mem) ⊕ Nat)
  | 0, _, _, _ => none
  | fu + 1, I, v1, v2 =>
    if (600 : Int32) ≤ v2 then (some (Sum.inl I)) else ((f_X5_isSign I (42 : Int32)).bind fun y1 =>
    if y1 = 0 then ((f_X5_isSign I (47 : Int32)).bind fun y2 =>
    if y2 = 0 then (some (Sum.inl I)) else (f_X5_readProduct_32 rc (f_X5_readProduct_7 rc P fu) P I v1 v2)) else (f_X5_readProduct_32 rc (f_X5_readProduct_7 rc P fu) P I v1 v2))
theorem b_X5_readProduct_7 (X : CX) (Q : State → Prop) (rc : PMem → Mem → Int32 → Option ((Mem) ⊕ Nat)) (dr : Nat) (Hrc : ∀ {I : Mem} {P : PMem} {O : Nat → Int64} {D : Bool} {n : Nat} {v1 : Int32} {r : (Mem)}, rc P I v1 = some r → MethR yX5_readExpr cX5_readExpr 3 (none) dr [.inr (.inr (5, 0, 0)), .inl v1] I P O D n none r P O D n) {d : Nat} (hd : dr + 12 ≤ d) {P : PMem} {O : Nat → Int64} {D : Bool} {n : Nat} {r : (Mem)}  : ∀ (fu : Nat) {I : Mem} {v1 : Int32} {v2 : Int32}, f_X5_readProduct_7 rc P fu I v1 v2 = some (Sum.inl r) → EndR X cX5_readProduct RX5 4 (none) d n none r P O D Q → Here X cX5_readProduct RX5 4 (none) d n 7 [some (.inr (.inr (5, 0, 0))), some (.inl v1), some (.inl v2), none] [] I P O D n Q := by
  intro fu
  induction fu with
  | zero => intro I v1 v2 h E; cases h
  | succ fu ih =>
  intro I v1 v2 h E
  have H7 : ∀ (I : Mem) (v1 : Int32) (v2 : Int32), f_X5_readProduct_7 rc P fu I v1 v2 = some (Sum.inl r) → Here X cX5_readProduct RX5 4 (none) d n 7 [some (.inr (.inr (5, 0, 0))), some (.inl v1), some (.inl v2), none] [] I P O D n Q := fun _ _ _ b => ih b E
  simp only [f_X5_readProduct_7] at h
  refine h_iload_n dX5_readProduct_7 rfl ?_
  refine h_sipush (600 : Int32) dX5_readProduct_8 k_sipush_600 ?_
  refine h_icmp_ge (tgt := 77) dX5_readProduct_11 (by decide) (fun q1 => ?_) (fun q1 => ?_)
  · rw [if_pos q1] at h
    cases h
    exact h_vret dX5_readProduct_77 rfl E
  · rw [if_neg q1] at h
    refine h_aload_n dX5_readProduct_14 rfl ?_
    refine h_bipush (42 : Int32) dX5_readProduct_15 k_bipush_42 ?_
    obtain ⟨y1, hh1, h⟩ := obd_some h
    refine h_cVi [.inl (42 : Int32)] (m_X5_isSign  hh1) cw_X5_172 dX5_readProduct_17 rfl ok_5 (by omega) rfl (Or.inr rfl) rfl ?_
    refine h_if_ne (tgt := 32) dX5_readProduct_20 (by decide) (fun q2 => ?_) (fun q2 => ?_)
    · rw [if_neg q2] at h
      exact (b_X5_readProduct_32 X Q rc dr Hrc hd H7  h E)
    · rw [if_pos q2] at h
      refine h_aload_n dX5_readProduct_23 rfl ?_
      refine h_bipush (47 : Int32) dX5_readProduct_24 k_bipush_47 ?_
      obtain ⟨y2, hh2, h⟩ := obd_some h
      refine h_cVi [.inl (47 : Int32)] (m_X5_isSign  hh2) cw_X5_172 dX5_readProduct_26 rfl ok_5 (by omega) rfl (Or.inr rfl) rfl ?_
      refine h_if_eq (tgt := 77) dX5_readProduct_29 (by decide) (fun q3 => ?_) (fun q3 => ?_)
      · rw [if_pos q3] at h
        cases h
        exact h_vret dX5_readProduct_77 rfl E
      · rw [if_neg q3] at h
        exact (b_X5_readProduct_32 X Q rc dr Hrc hd H7  h E)
theorem bx_X5_readProduct_7 (X : CX) (Q : State → Prop) (rc : PMem → Mem → Int32 → Option ((Mem) ⊕ Nat)) (dr : Nat) (Hrc : ∀ {I : Mem} {P : PMem} {O : Nat → Int64} {D : Bool} {n : Nat} {v1 : Int32} {r : (Mem)}, rc P I v1 = some r → MethR yX5_readExpr cX5_readExpr 3 (none) dr [.inr (.inr (5, 0, 0)), .inl v1] I P O D n none r P O D n) {d : Nat} (hd : dr + 12 ≤ d) {P : PMem} {O : Nat → Int64} {D : Bool} {n : Nat} {r : Nat}  : ∀ (fu : Nat) {I : Mem} {v1 : Int32} {v2 : Int32}, f_X5_readProduct_7 rc P fu I v1 v2 = some (Sum.inr r) → EndX X cX5_readProduct RX5 4 (none) d (n + 1) r I P O D Q → Here X cX5_readProduct RX5 4 (none) d (n + 1) 7 [some (.inr (.inr (5, 0, 0))), some (.inl v1), some (.inl v2), none] [] I P O D n Q := by
  intro fu
  induction fu with
  | zero => intro I v1 v2 h E; cases h
  | succ fu ih =>
  intro I v1 v2 h E
  have H7 : ∀ (I : Mem) (v1 : Int32) (v2 : Int32), f_X5_readProduct_7 rc P fu I v1 v2 = some (Sum.inr r) → Here X cX5_readProduct RX5 4 (none) d (n + 1) 7 [some (.inr (.inr (5, 0, 0))), some (.inl v1), some (.inl v2), none] [] I P O D n Q := fun _ _ _ b => ih b E
  simp only [f_X5_readProduct_7] at h
  refine h_iload_n dX5_readProduct_7 rfl ?_
  refine h_sipush (600 : Int32) dX5_readProduct_8 k_sipush_600 ?_
  refine h_icmp_ge (tgt := 77) dX5_readProduct_11 (by decide) (fun q1 => ?_) (fun q1 => ?_)
  · rw [if_pos q1] at h
    cases h
  · rw [if_neg q1] at h
    refine h_aload_n dX5_readProduct_14 rfl ?_
    refine h_bipush (42 : Int32) dX5_readProduct_15 k_bipush_42 ?_
    obtain ⟨y1, hh1, h⟩ := obd_some h
    refine h_cVi [.inl (42 : Int32)] (m_X5_isSign  hh1) cw_X5_172 dX5_readProduct_17 rfl ok_5 (by omega) rfl (Or.inr rfl) rfl ?_
    refine h_if_ne (tgt := 32) dX5_readProduct_20 (by decide) (fun q2 => ?_) (fun q2 => ?_)
    · rw [if_neg q2] at h
      exact (bx_X5_readProduct_32 X Q rc dr Hrc hd H7  h E)
    · rw [if_pos q2] at h
      refine h_aload_n dX5_readProduct_23 rfl ?_
      refine h_bipush (47 : Int32) dX5_readProduct_24 k_bipush_47 ?_
      obtain ⟨y2, hh2, h⟩ := obd_some h
      refine h_cVi [.inl (47 : Int32)] (m_X5_isSign  hh2) cw_X5_172 dX5_readProduct_26 rfl ok_5 (by omega) rfl (Or.inr rfl) rfl ?_
      refine h_if_eq (tgt := 77) dX5_readProduct_29 (by decide) (fun q3 => ?_) (fun q3 => ?_)
      · rw [if_pos q3] at h
        cases h
      · rw [if_neg q3] at h
        exact (bx_X5_readProduct_32 X Q rc dr Hrc hd H7  h E)
def f_X5_readProduct (rc : PMem → Mem → Int32 → Option ((Mem) ⊕ Nat))  (P : PMem) (I : Mem) (v1 : Int32) : Option ((Mem) ⊕ Nat) :=
  thb (f_X5_readPart rc P I v1) fun y1 =>
  f_X5_readProduct_7 rc P FU y1 v1 (0 : Int32)
theorem b_X5_readProduct (X : CX) (Q : State → Prop) (rc : PMem → Mem → Int32 → Option ((Mem) ⊕ Nat)) (dr : Nat) (Hrc : ∀ {I : Mem} {P : PMem} {O : Nat → Int64} {D : Bool} {n : Nat} {v1 : Int32} {r : (Mem)}, rc P I v1 = some r → MethR yX5_readExpr cX5_readExpr 3 (none) dr [.inr (.inr (5, 0, 0)), .inl v1] I P O D n none r P O D n) {d : Nat} (hd : dr + 12 ≤ d) {I : Mem} {P : PMem} {O : Nat → Int64} {D : Bool} {n : Nat} {v1 : Int32} {r : (Mem)}  (h : f_X5_readProduct rc P I v1 = some (Sum.inl r)) (E : EndR X cX5_readProduct RX5 4 (none) d n none r P O D Q) : Here X cX5_readProduct RX5 4 (none) d n 0 [some (.inr (.inr (5, 0, 0))), some (.inl v1), none, none] [] I P O D n Q := by
  unfold f_X5_readProduct at h
  refine h_aload_n dX5_readProduct_0 rfl ?_
  refine h_iload_n dX5_readProduct_1 rfl ?_
  obtain ⟨y1, hh1, h⟩ := thb_R h
  refine h_cVv [.inl v1] (m_X5_readPart (d := d - 1) rc dr Hrc (by omega)  hh1) cw_X5_200 dX5_readProduct_2 rfl ok_5 (by omega) rfl (Or.inr rfl) rfl ?_
  refine h_iconst (0 : Int32) dX5_readProduct_5 k_iconst_0 ?_
  refine h_istore_n dX5_readProduct_6 (by decide) rfl ?_
  exact (b_X5_readProduct_7 X Q rc dr Hrc hd FU  h E)
theorem bx_X5_readProduct (X : CX) (Q : State → Prop) (rc : PMem → Mem → Int32 → Option ((Mem) ⊕ Nat)) (dr : Nat) (Hrc : ∀ {I : Mem} {P : PMem} {O : Nat → Int64} {D : Bool} {n : Nat} {v1 : Int32} {r : (Mem)}, rc P I v1 = some r → MethR yX5_readExpr cX5_readExpr 3 (none) dr [.inr (.inr (5, 0, 0)), .inl v1] I P O D n none r P O D n) {d : Nat} (hd : dr + 12 ≤ d) {I : Mem} {P : PMem} {O : Nat → Int64} {D : Bool} {n : Nat} {v1 : Int32} {r : Nat}  (h : f_X5_readProduct rc P I v1 = some (Sum.inr r)) (E : EndX X cX5_readProduct RX5 4 (none) d (n + 1) r I P O D Q) : Here X cX5_readProduct RX5 4 (none) d (n + 1) 0 [some (.inr (.inr (5, 0, 0))), some (.inl v1), none, none] [] I P O D n Q := by
  unfold f_X5_readProduct at h
  refine h_aload_n dX5_readProduct_0 rfl ?_
  refine h_iload_n dX5_readProduct_1 rfl ?_
  rcases thb_X h with hh1 | ⟨y1, hh1, h⟩
  · exact h_callVX (as := [.inl v1]) (mx_X5_readPart  hh1) cw_X5_200 dX5_readProduct_2 rfl ok_5 (by omega) rfl rfl E
  refine h_cVv [.inl v1] (m_X5_readPart (d := d - 1) rc dr Hrc (by omega)  hh1) cw_X5_200 dX5_readProduct_2 rfl ok_5 (by omega) rfl (Or.inr rfl) rfl ?_
  refine h_iconst (0 : Int32) dX5_readProduct_5 k_iconst_0 ?_
  refine h_istore_n dX5_readProduct_6 (by decide) rfl ?_
  exact (bx_X5_readProduct_7 X Q rc dr Hrc hd FU  h E)
theorem m_X5_readProduct (rc : PMem → Mem → Int32 → Option ((Mem) ⊕ Nat)) (dr : Nat) (Hrc : ∀ {I : Mem} {P : PMem} {O : Nat → Int64} {D : Bool} {n : Nat} {v1 : Int32} {r : (Mem)}, rc P I v1 = some r → MethR yX5_readExpr cX5_readExpr 3 (none) dr [.inr (.inr (5, 0, 0)), .inl v1] I P O D n none r P O D n) {d : Nat} (hd : dr + 12 ≤ d) {I : Mem} {P : PMem} {O : Nat → Int64} {D : Bool} {n : Nat} {v1 : Int32} {r : (Mem)}  (h : f_X5_readProduct rc P I v1 = some (Sum.inl r)) : MethR yX5_readProduct cX5_readProduct 4 (none) d [.inr (.inr (5, 0, 0)), .inl v1] I P O D n none r P O D n := meth_R (Nat.le_refl _) (by decide) rfl (Nat.le_of_ble_eq_true rfl) rfl (fun X Q E => b_X5_readProduct X Q rc dr Hrc hd  h E)
theorem mx_X5_readProduct {I : Mem} {P : PMem} {O : Nat → Int64} {D : Bool} {n : Nat} {v1 : Int32} {r : Nat}  (h : f_X5_readProduct rc P I v1 = some (Sum.inr r)) : MethX yX5_readProduct cX5_readProduct 4 (none) d [.inr (.inr (5, 0, 0)), .inl v1] I P O D n r I P O D (n + 1) := meth_X (Nat.le_succ _) (by decide) rfl (Nat.le_of_ble_eq_true rfl) rfl (fun X Q E => bx_X5_readProduct X Q  h E)
def f_X5_readSum_50 (rc : PMem → Mem → Int32 → Option ((Mem) ⊕ Nat)) (k7 : Mem → Int32 → Int32 → Option ((Mem) ⊕ Nat)) (P : PMem) (I : Mem) (v1 : Int32) (v2 : Int32) (s0 : Int32) : Option ((Mem) ⊕ Nat) :=
  (f_X5_advance I).bind fun y1 =>
  thb (f_X5_readProduct rc P y1 v1) fun y2 =>
  gd (decide ((P 5 0 0 4) < 2)) <|
  (f_X4_add (P 5 0 0 4) y2 s0).bind fun y3 =>
  k7 y3 v1 (v2 + (1 : Int32))
theorem b_X5_readSum_50 (X : CX) (Q : State → Prop) (rc : PMem → Mem → Int32 → Option ((Mem) ⊕ Nat)) (dr : Nat) (Hrc : ∀ {I : Mem} {P : PMem} {O : Nat → Int64} {D : Bool} {n : Nat} {v1 : Int32} {r : (Mem)}, rc P I v1 = some r → MethR yX5_readExpr cX5_readExpr 3 (none) dr [.inr (.inr (5, 0, 0)), .inl v1] I P O D n none r P O D n) {d : Nat} (hd : dr + 13 ≤ d) {I : Mem} {P : PMem} {O : Nat → Int64} {D : Bool} {n : Nat} {k7 : Mem → Int32 → Int32 → Option ((Mem) ⊕ Nat)} {v1 : Int32} {v2 : Int32} {s0 : Int32} {r : (Mem)}  (H7 : ∀ (I : Mem) (v1 : Int32) (v2 : Int32), k7 I v1 v2 = some (Sum.inl r) → Here X cX5_readSum RX5 4 (none) d n 7 [some (.inr (.inr (5, 0, 0))), some (.inl v1), some (.inl v2), none] [] I P O D n Q) (h : f_X5_readSum_50 rc k7 P I v1 v2 s0 = some (Sum.inl r)) (E : EndR X cX5_readSum RX5 4 (none) d n none r P O D Q) : Here X cX5_readSum RX5 4 (none) d n 50 [some (.inr (.inr (5, 0, 0))), some (.inl v1), some (.inl v2), none] [.inl s0] I P O D n Q := by
  unfold f_X5_readSum_50 at h
  refine h_istore_n dX5_readSum_50 (by decide) rfl ?_
  refine h_aload_n dX5_readSum_51 rfl ?_
  obtain ⟨y1, hh1, h⟩ := obd_some h
  refine h_cVv [] (m_X5_advance  hh1) cw_X5_43 dX5_readSum_52 rfl ok_5 (by omega) rfl (Or.inr rfl) rfl ?_
  refine h_aload_n dX5_readSum_55 rfl ?_
  refine h_iload_n dX5_readSum_56 rfl ?_
  obtain ⟨y2, hh2, h⟩ := thb_R h
  refine h_cVv [.inl v1] (m_X5_readProduct (d := d - 1) rc dr Hrc (by omega)  hh2) cw_X5_197 dX5_readSum_57 rfl ok_5 (by omega) rfl (Or.inr rfl) rfl ?_
  refine h_aload_n dX5_readSum_60 rfl ?_
  refine g_X5_19  dX5_readSum_61 ?_
  obtain ⟨g1, h⟩ := gd_some h
  have w1 := of_decide_eq_true g1
  refine g_X5_160 (by omega) dX5_readSum_64 ?_
  refine h_iload_n dX5_readSum_67 rfl ?_
  obtain ⟨y3, hh3, h⟩ := obd_some h
  refine h_cVv [.inl s0] (m_X4_add (by omega) hh3) cw_X5_181 dX5_readSum_68 rfl (ok_4 (by omega)) (by omega) rfl (Or.inr rfl) rfl ?_
  refine h_iinc (1 : Int32) dX5_readSum_71 rfl k_iinc_1 (by decide) rfl ?_
  refine h_goto (tgt := 7) dX5_readSum_74 (by decide) ?_
  exact h_mask [true, true, true, false] (H7 _ _ _ h)
theorem bx_X5_readSum_50 (X : CX) (Q : State → Prop) (rc : PMem → Mem → Int32 → Option ((Mem) ⊕ Nat)) (dr : Nat) (Hrc : ∀ {I : Mem} {P : PMem} {O : Nat → Int64} {D : Bool} {n : Nat} {v1 : Int32} {r : (Mem)}, rc P I v1 = some r → MethR yX5_readExpr cX5_readExpr 3 (none) dr [.inr (.inr (5, 0, 0)), .inl v1] I P O D n none r P O D n) {d : Nat} (hd : dr + 13 ≤ d) {I : Mem} {P : PMem} {O : Nat → Int64} {D : Bool} {n : Nat} {k7 : Mem → Int32 → Int32 → Option ((Mem) ⊕ Nat)} {v1 : Int32} {v2 : Int32} {s0 : Int32} {r : Nat}  (H7 : ∀ (I : Mem) (v1 : Int32) (v2 : Int32), k7 I v1 v2 = some (Sum.inr r) → Here X cX5_readSum RX5 4 (none) d (n + 1) 7 [some (.inr (.inr (5, 0, 0))), some (.inl v1), some (.inl v2), none] [] I P O D n Q) (h : f_X5_readSum_50 rc k7 P I v1 v2 s0 = some (Sum.inr r)) (E : EndX X cX5_readSum RX5 4 (none) d (n + 1) r I P O D Q) : Here X cX5_readSum RX5 4 (none) d (n + 1) 50 [some (.inr (.inr (5, 0, 0))), some (.inl v1), some (.inl v2), none] [.inl s0] I P O D n Q := by
  unfold f_X5_readSum_50 at h
  refine h_istore_n dX5_readSum_50 (by decide) rfl ?_
  refine h_aload_n dX5_readSum_51 rfl ?_
  obtain ⟨y1, hh1, h⟩ := obd_some h
  refine h_cVv [] (m_X5_advance  hh1) cw_X5_43 dX5_readSum_52 rfl ok_5 (by omega) rfl (Or.inr rfl) rfl ?_
  refine h_aload_n dX5_readSum_55 rfl ?_
  refine h_iload_n dX5_readSum_56 rfl ?_
  rcases thb_X h with hh2 | ⟨y2, hh2, h⟩
  · exact h_callVX (as := [.inl v1]) (mx_X5_readProduct  hh2) cw_X5_197 dX5_readSum_57 rfl ok_5 (by omega) rfl rfl E
  refine h_cVv [.inl v1] (m_X5_readProduct (d := d - 1) rc dr Hrc (by omega)  hh2) cw_X5_197 dX5_readSum_57 rfl ok_5 (by omega) rfl (Or.inr rfl) rfl ?_
  refine h_aload_n dX5_readSum_60 rfl ?_
  refine g_X5_19  dX5_readSum_61 ?_
  obtain ⟨g1, h⟩ := gd_some h
  have w1 := of_decide_eq_true g1
  refine g_X5_160 (by omega) dX5_readSum_64 ?_
  refine h_iload_n dX5_readSum_67 rfl ?_
  obtain ⟨y3, hh3, h⟩ := obd_some h
  refine h_cVv [.inl s0] (m_X4_add (by omega) hh3) cw_X5_181 dX5_readSum_68 rfl (ok_4 (by omega)) (by omega) rfl (Or.inr rfl) rfl ?_
  refine h_iinc (1 : Int32) dX5_readSum_71 rfl k_iinc_1 (by decide) rfl ?_
  refine h_goto (tgt := 7) dX5_readSum_74 (by decide) ?_
  exact h_mask [true, true, true, false] (H7 _ _ _ h)
def f_X5_readSum_32 (rc : PMem → Mem → Int32 → Option ((Mem) ⊕ Nat)) (k7 : Mem → Int32 → Int32 → Option ((Mem) ⊕ Nat)) (P : PMem) (I : Mem) (v1 : Int32) (v2 : Int32) : Option ((Mem) ⊕ Nat) :=
  (f_X5_isSign I (43 : Int32)).bind fun y1 =>
  if y1 = 0 then (f_X5_readSum_50 rc k7 P I v1 v2 (10011 : Int32)) else (f_X5_readSum_50 rc k7 P I v1 v2 (10010 : Int32))
theorem b_X5_readSum_32 (X : CX) (Q : State → Prop) (rc : PMem → Mem → Int32 → Option ((Mem) ⊕ Nat)) (dr : Nat) (Hrc : ∀ {I : Mem} {P : PMem} {O : Nat → Int64} {D : Bool} {n : Nat} {v1 : Int32} {r : (Mem)}, rc P I v1 = some r → MethR yX5_readExpr cX5_readExpr 3 (none) dr [.inr (.inr (5, 0, 0)), .inl v1] I P O D n none r P O D n) {d : Nat} (hd : dr + 13 ≤ d) {I : Mem} {P : PMem} {O : Nat → Int64} {D : Bool} {n : Nat} {k7 : Mem → Int32 → Int32 → Option ((Mem) ⊕ Nat)} {v1 : Int32} {v2 : Int32} {r : (Mem)}  (H7 : ∀ (I : Mem) (v1 : Int32) (v2 : Int32), k7 I v1 v2 = some (Sum.inl r) → Here X cX5_readSum RX5 4 (none) d n 7 [some (.inr (.inr (5, 0, 0))), some (.inl v1), some (.inl v2), none] [] I P O D n Q) (h : f_X5_readSum_32 rc k7 P I v1 v2 = some (Sum.inl r)) (E : EndR X cX5_readSum RX5 4 (none) d n none r P O D Q) : Here X cX5_readSum RX5 4 (none) d n 32 [some (.inr (.inr (5, 0, 0))), some (.inl v1), some (.inl v2), none] [] I P O D n Q := by
  unfold f_X5_readSum_32 at h
  refine h_aload_n dX5_readSum_32 rfl ?_
  refine h_bipush (43 : Int32) dX5_readSum_33 k_bipush_43 ?_
  obtain ⟨y1, hh1, h⟩ := obd_some h
  refine h_cVi [.inl (43 : Int32)] (m_X5_isSign  hh1) cw_X5_172 dX5_readSum_35 rfl ok_5 (by omega) rfl (Or.inr rfl) rfl ?_
  refine h_if_eq (tgt := 47) dX5_readSum_38 (by decide) (fun q1 => ?_) (fun q1 => ?_)
  · rw [if_pos q1] at h
    refine h_sipush (10011 : Int32) dX5_readSum_47 k_sipush_10011 ?_
    exact (b_X5_readSum_50 X Q rc dr Hrc hd H7  h E)
  · rw [if_neg q1] at h
    refine h_sipush (10010 : Int32) dX5_readSum_41 k_sipush_10010 ?_
    refine h_goto (tgt := 50) dX5_readSum_44 (by decide) ?_
    exact (b_X5_readSum_50 X Q rc dr Hrc hd H7  h E)
theorem bx_X5_readSum_32 (X : CX) (Q : State → Prop) (rc : PMem → Mem → Int32 → Option ((Mem) ⊕ Nat)) (dr : Nat) (Hrc : ∀ {I : Mem} {P : PMem} {O : Nat → Int64} {D : Bool} {n : Nat} {v1 : Int32} {r : (Mem)}, rc P I v1 = some r → MethR yX5_readExpr cX5_readExpr 3 (none) dr [.inr (.inr (5, 0, 0)), .inl v1] I P O D n none r P O D n) {d : Nat} (hd : dr + 13 ≤ d) {I : Mem} {P : PMem} {O : Nat → Int64} {D : Bool} {n : Nat} {k7 : Mem → Int32 → Int32 → Option ((Mem) ⊕ Nat)} {v1 : Int32} {v2 : Int32} {r : Nat}  (H7 : ∀ (I : Mem) (v1 : Int32) (v2 : Int32), k7 I v1 v2 = some (Sum.inr r) → Here X cX5_readSum RX5 4 (none) d (n + 1) 7 [some (.inr (.inr (5, 0, 0))), some (.inl v1), some (.inl v2), none] [] I P O D n Q) (h : f_X5_readSum_32 rc k7 P I v1 v2 = some (Sum.inr r)) (E : EndX X cX5_readSum RX5 4 (none) d (n + 1) r I P O D Q) : Here X cX5_readSum RX5 4 (none) d (n + 1) 32 [some (.inr (.inr (5, 0, 0))), some (.inl v1), some (.inl v2), none] [] I P O D n Q := by
  unfold f_X5_readSum_32 at h
  refine h_aload_n dX5_readSum_32 rfl ?_
  refine h_bipush (43 : Int32) dX5_readSum_33 k_bipush_43 ?_
  obtain ⟨y1, hh1, h⟩ := obd_some h
  refine h_cVi [.inl (43 : Int32)] (m_X5_isSign  hh1) cw_X5_172 dX5_readSum_35 rfl ok_5 (by omega) rfl (Or.inr rfl) rfl ?_
  refine h_if_eq (tgt := 47) dX5_readSum_38 (by decide) (fun q1 => ?_) (fun q1 => ?_)
  · rw [if_pos q1] at h
    refine h_sipush (10011 : Int32) dX5_readSum_47 k_sipush_10011 ?_
    exact (bx_X5_readSum_50 X Q rc dr Hrc hd H7  h E)
  · rw [if_neg q1] at h
    refine h_sipush (10010 : Int32) dX5_readSum_41 k_sipush_10010 ?_
    refine h_goto (tgt := 50) dX5_readSum_44 (by decide) ?_
    exact (bx_X5_readSum_50 X Q rc dr Hrc hd H7  h E)
def f_X5_readSum_7 (rc : PMem → Mem → Int32 → Option ((Mem) ⊕ Nat))  (P : PMem) : Nat → Mem → Int32 → Int32 → Option ((Mem) ⊕ Nat)
  | 0, _, _, _ => none
  | fu + 1, I, v1, v2 =>
    if (600 : Int32) ≤ v2 then (some (Sum.inl I)) else ((f_X5_isSign I (43 : Int32)).bind fun y1 =>
    if y1 = 0 then ((f_X5_isSign I (45 : Int32)).bind fun y2 =>
    if y2 = 0 then (some (Sum.inl I)) else (f_X5_readSum_32 rc (f_X5_readSum_7 rc P fu) P I v1 v2)) else (f_X5_readSum_32 rc (f_X5_readSum_7 rc P fu) P I v1 v2))
theorem b_X5_readSum_7 (X : CX) (Q : State → Prop) (rc : PMem → Mem → Int32 → Option ((Mem) ⊕ Nat)) (dr : Nat) (Hrc : ∀ {I : Mem} {P : PMem} {O : Nat → Int64} {D : Bool} {n : Nat} {v1 : Int32} {r : (Mem)}, rc P I v1 = some r → MethR yX5_readExpr cX5_readExpr 3 (none) dr [.inr (.inr (5, 0, 0)), .inl v1] I P O D n none r P O D n) {d : Nat} (hd : dr + 13 ≤ d) {P : PMem} {O : Nat → Int64} {D : Bool} {n : Nat} {r : (Mem)}  : ∀ (fu : Nat) {I : Mem} {v1 : Int32} {v2 : Int32}, f_X5_readSum_7 rc P fu I v1 v2 = some (Sum.inl r) → EndR X cX5_readSum RX5 4 (none) d n none r P O D Q → Here X cX5_readSum RX5 4 (none) d n 7 [some (.inr (.inr (5, 0, 0))), some (.inl v1), some (.inl v2), none] [] I P O D n Q := by
  intro fu
  induction fu with
  | zero => intro I v1 v2 h E; cases h
  | succ fu ih =>
  intro I v1 v2 h E
  have H7 : ∀ (I : Mem) (v1 : Int32) (v2 : Int32), f_X5_readSum_7 rc P fu I v1 v2 = some (Sum.inl r) → Here X cX5_readSum RX5 4 (none) d n 7 [some (.inr (.inr (5, 0, 0))), some (.inl v1), some (.inl v2), none] [] I P O D n Q := fun _ _ _ b => ih b E
  simp only [f_X5_readSum_7] at h
  refine h_iload_n dX5_readSum_7 rfl ?_
  refine h_sipush (600 : Int32) dX5_readSum_8 k_sipush_600 ?_
  refine h_icmp_ge (tgt := 77) dX5_readSum_11 (by decide) (fun q1 => ?_) (fun q1 => ?_)
  · rw [if_pos q1] at h
    cases h
    exact h_vret dX5_readSum_77 rfl E
  · rw [if_neg q1] at h
    refine h_aload_n dX5_readSum_14 rfl ?_
    refine h_bipush (43 : Int32) dX5_readSum_15 k_bipush_43 ?_
    obtain ⟨y1, hh1, h⟩ := obd_some h
    refine h_cVi [.inl (43 : Int32)] (m_X5_isSign  hh1) cw_X5_172 dX5_readSum_17 rfl ok_5 (by omega) rfl (Or.inr rfl) rfl ?_
    refine h_if_ne (tgt := 32) dX5_readSum_20 (by decide) (fun q2 => ?_) (fun q2 => ?_)
    · rw [if_neg q2] at h
      exact (b_X5_readSum_32 X Q rc dr Hrc hd H7  h E)
    · rw [if_pos q2] at h
      refine h_aload_n dX5_readSum_23 rfl ?_
      refine h_bipush (45 : Int32) dX5_readSum_24 k_bipush_45 ?_
      obtain ⟨y2, hh2, h⟩ := obd_some h
      refine h_cVi [.inl (45 : Int32)] (m_X5_isSign  hh2) cw_X5_172 dX5_readSum_26 rfl ok_5 (by omega) rfl (Or.inr rfl) rfl ?_
      refine h_if_eq (tgt := 77) dX5_readSum_29 (by decide) (fun q3 => ?_) (fun q3 => ?_)
      · rw [if_pos q3] at h
        cases h
        exact h_vret dX5_readSum_77 rfl E
      · rw [if_neg q3] at h
        exact (b_X5_readSum_32 X Q rc dr Hrc hd H7  h E)
theorem bx_X5_readSum_7 (X : CX) (Q : State → Prop) (rc : PMem → Mem → Int32 → Option ((Mem) ⊕ Nat)) (dr : Nat) (Hrc : ∀ {I : Mem} {P : PMem} {O : Nat → Int64} {D : Bool} {n : Nat} {v1 : Int32} {r : (Mem)}, rc P I v1 = some r → MethR yX5_readExpr cX5_readExpr 3 (none) dr [.inr (.inr (5, 0, 0)), .inl v1] I P O D n none r P O D n) {d : Nat} (hd : dr + 13 ≤ d) {P : PMem} {O : Nat → Int64} {D : Bool} {n : Nat} {r : Nat}  : ∀ (fu : Nat) {I : Mem} {v1 : Int32} {v2 : Int32}, f_X5_readSum_7 rc P fu I v1 v2 = some (Sum.inr r) → EndX X cX5_readSum RX5 4 (none) d (n + 1) r I P O D Q → Here X cX5_readSum RX5 4 (none) d (n + 1) 7 [some (.inr (.inr (5, 0, 0))), some (.inl v1), some (.inl v2), none] [] I P O D n Q := by
  intro fu
  induction fu with
  | zero => intro I v1 v2 h E; cases h
  | succ fu ih =>
  intro I v1 v2 h E
  have H7 : ∀ (I : Mem) (v1 : Int32) (v2 : Int32), f_X5_readSum_7 rc P fu I v1 v2 = some (Sum.inr r) → Here X cX5_readSum RX5 4 (none) d (n + 1) 7 [some (.inr (.inr (5, 0, 0))), some (.inl v1), some (.inl v2), none] [] I P O D n Q := fun _ _ _ b => ih b E
  simp only [f_X5_readSum_7] at h
  refine h_iload_n dX5_readSum_7 rfl ?_
  refine h_sipush (600 : Int32) dX5_readSum_8 k_sipush_600 ?_
  refine h_icmp_ge (tgt := 77) dX5_readSum_11 (by decide) (fun q1 => ?_) (fun q1 => ?_)
  · rw [if_pos q1] at h
    cases h
  · rw [if_neg q1] at h
    refine h_aload_n dX5_readSum_14 rfl ?_
    refine h_bipush (43 : Int32) dX5_readSum_15 k_bipush_43 ?_
    obtain ⟨y1, hh1, h⟩ := obd_some h
    refine h_cVi [.inl (43 : Int32)] (m_X5_isSign  hh1) cw_X5_172 dX5_readSum_17 rfl ok_5 (by omega) rfl (Or.inr rfl) rfl ?_
    refine h_if_ne (tgt := 32) dX5_readSum_20 (by decide) (fun q2 => ?_) (fun q2 => ?_)
    · rw [if_neg q2] at h
      exact (bx_X5_readSum_32 X Q rc dr Hrc hd H7  h E)
    · rw [if_pos q2] at h
      refine h_aload_n dX5_readSum_23 rfl ?_
      refine h_bipush (45 : Int32) dX5_readSum_24 k_bipush_45 ?_
      obtain ⟨y2, hh2, h⟩ := obd_some h
      refine h_cVi [.inl (45 : Int32)] (m_X5_isSign  hh2) cw_X5_172 dX5_readSum_26 rfl ok_5 (by omega) rfl (Or.inr rfl) rfl ?_
      refine h_if_eq (tgt := 77) dX5_readSum_29 (by decide) (fun q3 => ?_) (fun q3 => ?_)
      · rw [if_pos q3] at h
        cases h
      · rw [if_neg q3] at h
        exact (bx_X5_readSum_32 X Q rc dr Hrc hd H7  h E)
def f_X5_readSum (rc : PMem → Mem → Int32 → Option ((Mem) ⊕ Nat))  (P : PMem) (I : Mem) (v1 : Int32) : Option ((Mem) ⊕ Nat) :=
  thb (f_X5_readProduct rc P I v1) fun y1 =>
  f_X5_readSum_7 rc P FU y1 v1 (0 : Int32)
theorem b_X5_readSum (X : CX) (Q : State → Prop) (rc : PMem → Mem → Int32 → Option ((Mem) ⊕ Nat)) (dr : Nat) (Hrc : ∀ {I : Mem} {P : PMem} {O : Nat → Int64} {D : Bool} {n : Nat} {v1 : Int32} {r : (Mem)}, rc P I v1 = some r → MethR yX5_readExpr cX5_readExpr 3 (none) dr [.inr (.inr (5, 0, 0)), .inl v1] I P O D n none r P O D n) {d : Nat} (hd : dr + 13 ≤ d) {I : Mem} {P : PMem} {O : Nat → Int64} {D : Bool} {n : Nat} {v1 : Int32} {r : (Mem)}  (h : f_X5_readSum rc P I v1 = some (Sum.inl r)) (E : EndR X cX5_readSum RX5 4 (none) d n none r P O D Q) : Here X cX5_readSum RX5 4 (none) d n 0 [some (.inr (.inr (5, 0, 0))), some (.inl v1), none, none] [] I P O D n Q := by
  unfold f_X5_readSum at h
  refine h_aload_n dX5_readSum_0 rfl ?_
  refine h_iload_n dX5_readSum_1 rfl ?_
  obtain ⟨y1, hh1, h⟩ := thb_R h
  refine h_cVv [.inl v1] (m_X5_readProduct (d := d - 1) rc dr Hrc (by omega)  hh1) cw_X5_197 dX5_readSum_2 rfl ok_5 (by omega) rfl (Or.inr rfl) rfl ?_
  refine h_iconst (0 : Int32) dX5_readSum_5 k_iconst_0 ?_
  refine h_istore_n dX5_readSum_6 (by decide) rfl ?_
  exact (b_X5_readSum_7 X Q rc dr Hrc hd FU  h E)
theorem bx_X5_readSum (X : CX) (Q : State → Prop) (rc : PMem → Mem → Int32 → Option ((Mem) ⊕ Nat)) (dr : Nat) (Hrc : ∀ {I : Mem} {P : PMem} {O : Nat → Int64} {D : Bool} {n : Nat} {v1 : Int32} {r : (Mem)}, rc P I v1 = some r → MethR yX5_readExpr cX5_readExpr 3 (none) dr [.inr (.inr (5, 0, 0)), .inl v1] I P O D n none r P O D n) {d : Nat} (hd : dr + 13 ≤ d) {I : Mem} {P : PMem} {O : Nat → Int64} {D : Bool} {n : Nat} {v1 : Int32} {r : Nat}  (h : f_X5_readSum rc P I v1 = some (Sum.inr r)) (E : EndX X cX5_readSum RX5 4 (none) d (n + 1) r I P O D Q) : Here X cX5_readSum RX5 4 (none) d (n + 1) 0 [some (.inr (.inr (5, 0, 0))), some (.inl v1), none, none] [] I P O D n Q := by
  unfold f_X5_readSum at h
  refine h_aload_n dX5_readSum_0 rfl ?_
  refine h_iload_n dX5_readSum_1 rfl ?_
  rcases thb_X h with hh1 | ⟨y1, hh1, h⟩
  · exact h_callVX (as := [.inl v1]) (mx_X5_readProduct  hh1) cw_X5_197 dX5_readSum_2 rfl ok_5 (by omega) rfl rfl E
  refine h_cVv [.inl v1] (m_X5_readProduct (d := d - 1) rc dr Hrc (by omega)  hh1) cw_X5_197 dX5_readSum_2 rfl ok_5 (by omega) rfl (Or.inr rfl) rfl ?_
  refine h_iconst (0 : Int32) dX5_readSum_5 k_iconst_0 ?_
  refine h_istore_n dX5_readSum_6 (by decide) rfl ?_
  exact (bx_X5_readSum_7 X Q rc dr Hrc hd FU  h E)
theorem m_X5_readSum (rc : PMem → Mem → Int32 → Option ((Mem) ⊕ Nat)) (dr : Nat) (Hrc : ∀ {I : Mem} {P : PMem} {O : Nat → Int64} {D : Bool} {n : Nat} {v1 : Int32} {r : (Mem)}, rc P I v1 = some r → MethR yX5_readExpr cX5_readExpr 3 (none) dr [.inr (.inr (5, 0, 0)), .inl v1] I P O D n none r P O D n) {d : Nat} (hd : dr + 13 ≤ d) {I : Mem} {P : PMem} {O : Nat → Int64} {D : Bool} {n : Nat} {v1 : Int32} {r : (Mem)}  (h : f_X5_readSum rc P I v1 = some (Sum.inl r)) : MethR yX5_readSum cX5_readSum 4 (none) d [.inr (.inr (5, 0, 0)), .inl v1] I P O D n none r P O D n := meth_R (Nat.le_refl _) (by decide) rfl (Nat.le_of_ble_eq_true rfl) rfl (fun X Q E => b_X5_readSum X Q rc dr Hrc hd  h E)
theorem mx_X5_readSum {I : Mem} {P : PMem} {O : Nat → Int64} {D : Bool} {n : Nat} {v1 : Int32} {r : Nat}  (h : f_X5_readSum rc P I v1 = some (Sum.inr r)) : MethX yX5_readSum cX5_readSum 4 (none) d [.inr (.inr (5, 0, 0)), .inl v1] I P O D n r I P O D (n + 1) := meth_X (Nat.le_succ _) (by decide) rfl (Nat.le_of_ble_eq_true rfl) rfl (fun X Q E => bx_X5_readSum X Q  h E)
def f_X5_readTest_36 (rc : PMem → Mem → Int32 → Option ((Mem) ⊕ Nat))  (P : PMem) (I : Mem) (v1 : Int32) (s0 : Int32) : Option ((Mem) ⊕ Nat) :=
  if s0 = (-1 : Int32) then (some (Sum.inl I)) else ((f_X5_advance I).bind fun y1 =>
  thb (f_X5_readSum rc P y1 v1) fun y2 =>
  gd (decide ((P 5 0 0 4) < 2)) <|
  (f_X4_add (P 5 0 0 4) y2 s0).bind fun y3 =>
  some (Sum.inl y3))
theorem b_X5_readTest_36 (X : CX) (Q : State → Prop) (rc : PMem → Mem → Int32 → Option ((Mem) ⊕ Nat)) (dr : Nat) (Hrc : ∀ {I : Mem} {P : PMem} {O : Nat → Int64} {D : Bool} {n : Nat} {v1 : Int32} {r : (Mem)}, rc P I v1 = some r → MethR yX5_readExpr cX5_readExpr 3 (none) dr [.inr (.inr (5, 0, 0)), .inl v1] I P O D n none r P O D n) {d : Nat} (hd : dr + 14 ≤ d) {I : Mem} {P : PMem} {O : Nat → Int64} {D : Bool} {n : Nat} {v1 : Int32} {s0 : Int32} {r : (Mem)}  (h : f_X5_readTest_36 rc P I v1 s0 = some (Sum.inl r)) (E : EndR X cX5_readTest RX5 3 (none) d n none r P O D Q) : Here X cX5_readTest RX5 3 (none) d n 36 [some (.inr (.inr (5, 0, 0))), some (.inl v1), none] [.inl s0] I P O D n Q := by
  unfold f_X5_readTest_36 at h
  refine h_istore_n dX5_readTest_36 (by decide) rfl ?_
  refine h_iload_n dX5_readTest_37 rfl ?_
  refine h_iconst (-1 : Int32) dX5_readTest_38 k_iconst_m1 ?_
  refine h_icmp_eq (tgt := 62) dX5_readTest_39 (by decide) (fun q1 => ?_) (fun q1 => ?_)
  · rw [if_pos q1] at h
    cases h
    exact h_vret dX5_readTest_62 rfl E
  · rw [if_neg q1] at h
    refine h_aload_n dX5_readTest_42 rfl ?_
    obtain ⟨y1, hh1, h⟩ := obd_some h
    refine h_cVv [] (m_X5_advance  hh1) cw_X5_43 dX5_readTest_43 rfl ok_5 (by omega) rfl (Or.inr rfl) rfl ?_
    refine h_aload_n dX5_readTest_46 rfl ?_
    refine h_iload_n dX5_readTest_47 rfl ?_
    obtain ⟨y2, hh2, h⟩ := thb_R h
    refine h_cVv [.inl v1] (m_X5_readSum (d := d - 1) rc dr Hrc (by omega)  hh2) cw_X5_194 dX5_readTest_48 rfl ok_5 (by omega) rfl (Or.inr rfl) rfl ?_
    refine h_aload_n dX5_readTest_51 rfl ?_
    refine g_X5_19  dX5_readTest_52 ?_
    obtain ⟨g1, h⟩ := gd_some h
    have w1 := of_decide_eq_true g1
    refine g_X5_160 (by omega) dX5_readTest_55 ?_
    refine h_iload_n dX5_readTest_58 rfl ?_
    obtain ⟨y3, hh3, h⟩ := obd_some h
    refine h_cVv [.inl s0] (m_X4_add (by omega) hh3) cw_X5_181 dX5_readTest_59 rfl (ok_4 (by omega)) (by omega) rfl (Or.inr rfl) rfl ?_
    cases h
    exact h_vret dX5_readTest_62 rfl E
theorem bx_X5_readTest_36 (X : CX) (Q : State → Prop) (rc : PMem → Mem → Int32 → Option ((Mem) ⊕ Nat)) (dr : Nat) (Hrc : ∀ {I : Mem} {P : PMem} {O : Nat → Int64} {D : Bool} {n : Nat} {v1 : Int32} {r : (Mem)}, rc P I v1 = some r → MethR yX5_readExpr cX5_readExpr 3 (none) dr [.inr (.inr (5, 0, 0)), .inl v1] I P O D n none r P O D n) {d : Nat} (hd : dr + 14 ≤ d) {I : Mem} {P : PMem} {O : Nat → Int64} {D : Bool} {n : Nat} {v1 : Int32} {s0 : Int32} {r : Nat}  (h : f_X5_readTest_36 rc P I v1 s0 = some (Sum.inr r)) (E : EndX X cX5_readTest RX5 3 (none) d (n + 1) r I P O D Q) : Here X cX5_readTest RX5 3 (none) d (n + 1) 36 [some (.inr (.inr (5, 0, 0))), some (.inl v1), none] [.inl s0] I P O D n Q := by
  unfold f_X5_readTest_36 at h
  refine h_istore_n dX5_readTest_36 (by decide) rfl ?_
  refine h_iload_n dX5_readTest_37 rfl ?_
  refine h_iconst (-1 : Int32) dX5_readTest_38 k_iconst_m1 ?_
  refine h_icmp_eq (tgt := 62) dX5_readTest_39 (by decide) (fun q1 => ?_) (fun q1 => ?_)
  · rw [if_pos q1] at h
    cases h
  · rw [if_neg q1] at h
    refine h_aload_n dX5_readTest_42 rfl ?_
    obtain ⟨y1, hh1, h⟩ := obd_some h
    refine h_cVv [] (m_X5_advance  hh1) cw_X5_43 dX5_readTest_43 rfl ok_5 (by omega) rfl (Or.inr rfl) rfl ?_
    refine h_aload_n dX5_readTest_46 rfl ?_
    refine h_iload_n dX5_readTest_47 rfl ?_
    rcases thb_X h with hh2 | ⟨y2, hh2, h⟩
    · exact h_callVX (as := [.inl v1]) (mx_X5_readSum  hh2) cw_X5_194 dX5_readTest_48 rfl ok_5 (by omega) rfl rfl E
    refine h_cVv [.inl v1] (m_X5_readSum (d := d - 1) rc dr Hrc (by omega)  hh2) cw_X5_194 dX5_readTest_48 rfl ok_5 (by omega) rfl (Or.inr rfl) rfl ?_
    refine h_aload_n dX5_readTest_51 rfl ?_
    refine g_X5_19  dX5_readTest_52 ?_
    obtain ⟨g1, h⟩ := gd_some h
    have w1 := of_decide_eq_true g1
    refine g_X5_160 (by omega) dX5_readTest_55 ?_
    refine h_iload_n dX5_readTest_58 rfl ?_
    obtain ⟨y3, hh3, h⟩ := obd_some h
    refine h_cVv [.inl s0] (m_X4_add (by omega) hh3) cw_X5_181 dX5_readTest_59 rfl (ok_4 (by omega)) (by omega) rfl (Or.inr rfl) rfl ?_
    cases h
def f_X5_readTest (rc : PMem → Mem → Int32 → Option ((Mem) ⊕ Nat))  (P : PMem) (I : Mem) (v1 : Int32) : Option ((Mem) ⊕ Nat) :=
  thb (f_X5_readSum rc P I v1) fun y1 =>
  (f_X5_isSign y1 (60 : Int32)).bind fun y2 =>
  if y2 = 0 then ((f_X5_isSign y1 (61 : Int32)).bind fun y3 =>
  if y3 = 0 then (f_X5_readTest_36 rc P y1 v1 (-1 : Int32)) else (f_X5_readTest_36 rc P y1 v1 (10009 : Int32))) else (f_X5_readTest_36 rc P y1 v1 (10008 : Int32))
theorem b_X5_readTest (X : CX) (Q : State → Prop) (rc : PMem → Mem → Int32 → Option ((Mem) ⊕ Nat)) (dr : Nat) (Hrc : ∀ {I : Mem} {P : PMem} {O : Nat → Int64} {D : Bool} {n : Nat} {v1 : Int32} {r : (Mem)}, rc P I v1 = some r → MethR yX5_readExpr cX5_readExpr 3 (none) dr [.inr (.inr (5, 0, 0)), .inl v1] I P O D n none r P O D n) {d : Nat} (hd : dr + 14 ≤ d) {I : Mem} {P : PMem} {O : Nat → Int64} {D : Bool} {n : Nat} {v1 : Int32} {r : (Mem)}  (h : f_X5_readTest rc P I v1 = some (Sum.inl r)) (E : EndR X cX5_readTest RX5 3 (none) d n none r P O D Q) : Here X cX5_readTest RX5 3 (none) d n 0 [some (.inr (.inr (5, 0, 0))), some (.inl v1), none] [] I P O D n Q := by
  unfold f_X5_readTest at h
  refine h_aload_n dX5_readTest_0 rfl ?_
  refine h_iload_n dX5_readTest_1 rfl ?_
  obtain ⟨y1, hh1, h⟩ := thb_R h
  refine h_cVv [.inl v1] (m_X5_readSum (d := d - 1) rc dr Hrc (by omega)  hh1) cw_X5_194 dX5_readTest_2 rfl ok_5 (by omega) rfl (Or.inr rfl) rfl ?_
  refine h_aload_n dX5_readTest_5 rfl ?_
  refine h_bipush (60 : Int32) dX5_readTest_6 k_bipush_60 ?_
  obtain ⟨y2, hh2, h⟩ := obd_some h
  refine h_cVi [.inl (60 : Int32)] (m_X5_isSign  hh2) cw_X5_172 dX5_readTest_8 rfl ok_5 (by omega) rfl (Or.inr rfl) rfl ?_
  refine h_if_eq (tgt := 20) dX5_readTest_11 (by decide) (fun q1 => ?_) (fun q1 => ?_)
  · rw [if_pos q1] at h
    refine h_aload_n dX5_readTest_20 rfl ?_
    refine h_bipush (61 : Int32) dX5_readTest_21 k_bipush_61 ?_
    obtain ⟨y3, hh3, h⟩ := obd_some h
    refine h_cVi [.inl (61 : Int32)] (m_X5_isSign  hh3) cw_X5_172 dX5_readTest_23 rfl ok_5 (by omega) rfl (Or.inr rfl) rfl ?_
    refine h_if_eq (tgt := 35) dX5_readTest_26 (by decide) (fun q2 => ?_) (fun q2 => ?_)
    · rw [if_pos q2] at h
      refine h_iconst (-1 : Int32) dX5_readTest_35 k_iconst_m1 ?_
      exact (b_X5_readTest_36 X Q rc dr Hrc hd  h E)
    · rw [if_neg q2] at h
      refine h_sipush (10009 : Int32) dX5_readTest_29 k_sipush_10009 ?_
      refine h_goto (tgt := 36) dX5_readTest_32 (by decide) ?_
      exact (b_X5_readTest_36 X Q rc dr Hrc hd  h E)
  · rw [if_neg q1] at h
    refine h_sipush (10008 : Int32) dX5_readTest_14 k_sipush_10008 ?_
    refine h_goto (tgt := 36) dX5_readTest_17 (by decide) ?_
    exact (b_X5_readTest_36 X Q rc dr Hrc hd  h E)
theorem bx_X5_readTest (X : CX) (Q : State → Prop) (rc : PMem → Mem → Int32 → Option ((Mem) ⊕ Nat)) (dr : Nat) (Hrc : ∀ {I : Mem} {P : PMem} {O : Nat → Int64} {D : Bool} {n : Nat} {v1 : Int32} {r : (Mem)}, rc P I v1 = some r → MethR yX5_readExpr cX5_readExpr 3 (none) dr [.inr (.inr (5, 0, 0)), .inl v1] I P O D n none r P O D n) {d : Nat} (hd : dr + 14 ≤ d) {I : Mem} {P : PMem} {O : Nat → Int64} {D : Bool} {n : Nat} {v1 : Int32} {r : Nat}  (h : f_X5_readTest rc P I v1 = some (Sum.inr r)) (E : EndX X cX5_readTest RX5 3 (none) d (n + 1) r I P O D Q) : Here X cX5_readTest RX5 3 (none) d (n + 1) 0 [some (.inr (.inr (5, 0, 0))), some (.inl v1), none] [] I P O D n Q := by
  unfold f_X5_readTest at h
  refine h_aload_n dX5_readTest_0 rfl ?_
  refine h_iload_n dX5_readTest_1 rfl ?_
  rcases thb_X h with hh1 | ⟨y1, hh1, h⟩
  · exact h_callVX (as := [.inl v1]) (mx_X5_readSum  hh1) cw_X5_194 dX5_readTest_2 rfl ok_5 (by omega) rfl rfl E
  refine h_cVv [.inl v1] (m_X5_readSum (d := d - 1) rc dr Hrc (by omega)  hh1) cw_X5_194 dX5_readTest_2 rfl ok_5 (by omega) rfl (Or.inr rfl) rfl ?_
  refine h_aload_n dX5_readTest_5 rfl ?_
  refine h_bipush (60 : Int32) dX5_readTest_6 k_bipush_60 ?_
  obtain ⟨y2, hh2, h⟩ := obd_some h
  refine h_cVi [.inl (60 : Int32)] (m_X5_isSign  hh2) cw_X5_172 dX5_readTest_8 rfl ok_5 (by omega) rfl (Or.inr rfl) rfl ?_
  refine h_if_eq (tgt := 20) dX5_readTest_11 (by decide) (fun q1 => ?_) (fun q1 => ?_)
  · rw [if_pos q1] at h
    refine h_aload_n dX5_readTest_20 rfl ?_
    refine h_bipush (61 : Int32) dX5_readTest_21 k_bipush_61 ?_
    obtain ⟨y3, hh3, h⟩ := obd_some h
    refine h_cVi [.inl (61 : Int32)] (m_X5_isSign  hh3) cw_X5_172 dX5_readTest_23 rfl ok_5 (by omega) rfl (Or.inr rfl) rfl ?_
    refine h_if_eq (tgt := 35) dX5_readTest_26 (by decide) (fun q2 => ?_) (fun q2 => ?_)
    · rw [if_pos q2] at h
      refine h_iconst (-1 : Int32) dX5_readTest_35 k_iconst_m1 ?_
      exact (bx_X5_readTest_36 X Q rc dr Hrc hd  h E)
    · rw [if_neg q2] at h
      refine h_sipush (10009 : Int32) dX5_readTest_29 k_sipush_10009 ?_
      refine h_goto (tgt := 36) dX5_readTest_32 (by decide) ?_
      exact (bx_X5_readTest_36 X Q rc dr Hrc hd  h E)
  · rw [if_neg q1] at h
    refine h_sipush (10008 : Int32) dX5_readTest_14 k_sipush_10008 ?_
    refine h_goto (tgt := 36) dX5_readTest_17 (by decide) ?_
    exact (bx_X5_readTest_36 X Q rc dr Hrc hd  h E)
theorem m_X5_readTest (rc : PMem → Mem → Int32 → Option ((Mem) ⊕ Nat)) (dr : Nat) (Hrc : ∀ {I : Mem} {P : PMem} {O : Nat → Int64} {D : Bool} {n : Nat} {v1 : Int32} {r : (Mem)}, rc P I v1 = some r → MethR yX5_readExpr cX5_readExpr 3 (none) dr [.inr (.inr (5, 0, 0)), .inl v1] I P O D n none r P O D n) {d : Nat} (hd : dr + 14 ≤ d) {I : Mem} {P : PMem} {O : Nat → Int64} {D : Bool} {n : Nat} {v1 : Int32} {r : (Mem)}  (h : f_X5_readTest rc P I v1 = some (Sum.inl r)) : MethR yX5_readTest cX5_readTest 3 (none) d [.inr (.inr (5, 0, 0)), .inl v1] I P O D n none r P O D n := meth_R (Nat.le_refl _) (by decide) rfl (Nat.le_of_ble_eq_true rfl) rfl (fun X Q E => b_X5_readTest X Q rc dr Hrc hd  h E)
theorem mx_X5_readTest {I : Mem} {P : PMem} {O : Nat → Int64} {D : Bool} {n : Nat} {v1 : Int32} {r : Nat}  (h : f_X5_readTest rc P I v1 = some (Sum.inr r)) : MethX yX5_readTest cX5_readTest 3 (none) d [.inr (.inr (5, 0, 0)), .inl v1] I P O D n r I P O D (n + 1) := meth_X (Nat.le_succ _) (by decide) rfl (Nat.le_of_ble_eq_true rfl) rfl (fun X Q E => bx_X5_readTest X Q  h E)
def f_X5_readNot_45 (rc : PMem → Mem → Int32 → Option ((Mem) ⊕ Nat))  (P : PMem) : Nat → Mem → Int32 → Int32 → Option ((Mem) ⊕ Nat)
  | 0, _, _, _ => none
  | fu + 1, I, v2, v3 =>
    if v2 ≤ v3 then (some (Sum.inl I)) else (gd (decide ((P 5 0 0 4) < 2)) <|
    (f_X4_add (P 5 0 0 4) I (10007 : Int32)).bind fun y1 =>
    (f_X5_readNot_45 rc P fu) y1 v2 (v3 + (1 : Int32)))
theorem b_X5_readNot_45 (X : CX) (Q : State → Prop) (rc : PMem → Mem → Int32 → Option ((Mem) ⊕ Nat)) (dr : Nat) (Hrc : ∀ {I : Mem} {P : PMem} {O : Nat → Int64} {D : Bool} {n : Nat} {v1 : Int32} {r : (Mem)}, rc P I v1 = some r → MethR yX5_readExpr cX5_readExpr 3 (none) dr [.inr (.inr (5, 0, 0)), .inl v1] I P O D n none r P O D n) {d : Nat} (hd : dr + 15 ≤ d) {P : PMem} {O : Nat → Int64} {D : Bool} {n : Nat} {r : (Mem)}  : ∀ (fu : Nat) {I : Mem} {v2 : Int32} {v3 : Int32}, f_X5_readNot_45 rc P fu I v2 v3 = some (Sum.inl r) → EndR X cX5_readNot RX5 4 (none) d n none r P O D Q → Here X cX5_readNot RX5 4 (none) d n 45 [some (.inr (.inr (5, 0, 0))), none, some (.inl v2), some (.inl v3)] [] I P O D n Q := by
  intro fu
  induction fu with
  | zero => intro I v2 v3 h E; cases h
  | succ fu ih =>
  intro I v2 v3 h E
  have H45 : ∀ (I : Mem) (v2 : Int32) (v3 : Int32), f_X5_readNot_45 rc P fu I v2 v3 = some (Sum.inl r) → Here X cX5_readNot RX5 4 (none) d n 45 [some (.inr (.inr (5, 0, 0))), none, some (.inl v2), some (.inl v3)] [] I P O D n Q := fun _ _ _ b => ih b E
  simp only [f_X5_readNot_45] at h
  refine h_iload_n dX5_readNot_45 rfl ?_
  refine h_iload_n dX5_readNot_46 rfl ?_
  refine h_icmp_ge (tgt := 69) dX5_readNot_47 (by decide) (fun q1 => ?_) (fun q1 => ?_)
  · rw [if_pos q1] at h
    cases h
    exact h_vret dX5_readNot_69 rfl E
  · rw [if_neg q1] at h
    refine h_aload_n dX5_readNot_50 rfl ?_
    refine g_X5_19  dX5_readNot_51 ?_
    obtain ⟨g1, h⟩ := gd_some h
    have w1 := of_decide_eq_true g1
    refine g_X5_160 (by omega) dX5_readNot_54 ?_
    refine h_sipush (10007 : Int32) dX5_readNot_57 k_sipush_10007 ?_
    obtain ⟨y1, hh1, h⟩ := obd_some h
    refine h_cVv [.inl (10007 : Int32)] (m_X4_add (by omega) hh1) cw_X5_181 dX5_readNot_60 rfl (ok_4 (by omega)) (by omega) rfl (Or.inr rfl) rfl ?_
    refine h_iinc (1 : Int32) dX5_readNot_63 rfl k_iinc_1 (by decide) rfl ?_
    refine h_goto (tgt := 45) dX5_readNot_66 (by decide) ?_
    exact (H45 _ _ _ h)
theorem bx_X5_readNot_45 (X : CX) (Q : State → Prop) (rc : PMem → Mem → Int32 → Option ((Mem) ⊕ Nat)) (dr : Nat) (Hrc : ∀ {I : Mem} {P : PMem} {O : Nat → Int64} {D : Bool} {n : Nat} {v1 : Int32} {r : (Mem)}, rc P I v1 = some r → MethR yX5_readExpr cX5_readExpr 3 (none) dr [.inr (.inr (5, 0, 0)), .inl v1] I P O D n none r P O D n) {d : Nat} (hd : dr + 15 ≤ d) {P : PMem} {O : Nat → Int64} {D : Bool} {n : Nat} {r : Nat}  : ∀ (fu : Nat) {I : Mem} {v2 : Int32} {v3 : Int32}, f_X5_readNot_45 rc P fu I v2 v3 = some (Sum.inr r) → EndX X cX5_readNot RX5 4 (none) d (n + 1) r I P O D Q → Here X cX5_readNot RX5 4 (none) d (n + 1) 45 [some (.inr (.inr (5, 0, 0))), none, some (.inl v2), some (.inl v3)] [] I P O D n Q := by
  intro fu
  induction fu with
  | zero => intro I v2 v3 h E; cases h
  | succ fu ih =>
  intro I v2 v3 h E
  have H45 : ∀ (I : Mem) (v2 : Int32) (v3 : Int32), f_X5_readNot_45 rc P fu I v2 v3 = some (Sum.inr r) → Here X cX5_readNot RX5 4 (none) d (n + 1) 45 [some (.inr (.inr (5, 0, 0))), none, some (.inl v2), some (.inl v3)] [] I P O D n Q := fun _ _ _ b => ih b E
  simp only [f_X5_readNot_45] at h
  refine h_iload_n dX5_readNot_45 rfl ?_
  refine h_iload_n dX5_readNot_46 rfl ?_
  refine h_icmp_ge (tgt := 69) dX5_readNot_47 (by decide) (fun q1 => ?_) (fun q1 => ?_)
  · rw [if_pos q1] at h
    cases h
  · rw [if_neg q1] at h
    refine h_aload_n dX5_readNot_50 rfl ?_
    refine g_X5_19  dX5_readNot_51 ?_
    obtain ⟨g1, h⟩ := gd_some h
    have w1 := of_decide_eq_true g1
    refine g_X5_160 (by omega) dX5_readNot_54 ?_
    refine h_sipush (10007 : Int32) dX5_readNot_57 k_sipush_10007 ?_
    obtain ⟨y1, hh1, h⟩ := obd_some h
    refine h_cVv [.inl (10007 : Int32)] (m_X4_add (by omega) hh1) cw_X5_181 dX5_readNot_60 rfl (ok_4 (by omega)) (by omega) rfl (Or.inr rfl) rfl ?_
    refine h_iinc (1 : Int32) dX5_readNot_63 rfl k_iinc_1 (by decide) rfl ?_
    refine h_goto (tgt := 45) dX5_readNot_66 (by decide) ?_
    exact (H45 _ _ _ h)
def f_X5_readNot_38 (rc : PMem → Mem → Int32 → Option ((Mem) ⊕ Nat))  (P : PMem) (I : Mem) (v1 : Int32) (v2 : Int32) : Option ((Mem) ⊕ Nat) :=
  thb (f_X5_readTest rc P I v1) fun y1 =>
  f_X5_readNot_45 rc P FU y1 v2 (0 : Int32)
theorem b_X5_readNot_38 (X : CX) (Q : State → Prop) (rc : PMem → Mem → Int32 → Option ((Mem) ⊕ Nat)) (dr : Nat) (Hrc : ∀ {I : Mem} {P : PMem} {O : Nat → Int64} {D : Bool} {n : Nat} {v1 : Int32} {r : (Mem)}, rc P I v1 = some r → MethR yX5_readExpr cX5_readExpr 3 (none) dr [.inr (.inr (5, 0, 0)), .inl v1] I P O D n none r P O D n) {d : Nat} (hd : dr + 15 ≤ d) {I : Mem} {P : PMem} {O : Nat → Int64} {D : Bool} {n : Nat} {v1 : Int32} {v2 : Int32} {r : (Mem)}  (h : f_X5_readNot_38 rc P I v1 v2 = some (Sum.inl r)) (E : EndR X cX5_readNot RX5 4 (none) d n none r P O D Q) : Here X cX5_readNot RX5 4 (none) d n 38 [some (.inr (.inr (5, 0, 0))), some (.inl v1), some (.inl v2), none] [] I P O D n Q := by
  unfold f_X5_readNot_38 at h
  refine h_aload_n dX5_readNot_38 rfl ?_
  refine h_iload_n dX5_readNot_39 rfl ?_
  obtain ⟨y1, hh1, h⟩ := thb_R h
  refine h_cVv [.inl v1] (m_X5_readTest (d := d - 1) rc dr Hrc (by omega)  hh1) cw_X5_191 dX5_readNot_40 rfl ok_5 (by omega) rfl (Or.inr rfl) rfl ?_
  refine h_iconst (0 : Int32) dX5_readNot_43 k_iconst_0 ?_
  refine h_istore_n dX5_readNot_44 (by decide) rfl ?_
  exact h_mask [true, false, true, true] (b_X5_readNot_45 X Q rc dr Hrc hd FU  h E)
theorem bx_X5_readNot_38 (X : CX) (Q : State → Prop) (rc : PMem → Mem → Int32 → Option ((Mem) ⊕ Nat)) (dr : Nat) (Hrc : ∀ {I : Mem} {P : PMem} {O : Nat → Int64} {D : Bool} {n : Nat} {v1 : Int32} {r : (Mem)}, rc P I v1 = some r → MethR yX5_readExpr cX5_readExpr 3 (none) dr [.inr (.inr (5, 0, 0)), .inl v1] I P O D n none r P O D n) {d : Nat} (hd : dr + 15 ≤ d) {I : Mem} {P : PMem} {O : Nat → Int64} {D : Bool} {n : Nat} {v1 : Int32} {v2 : Int32} {r : Nat}  (h : f_X5_readNot_38 rc P I v1 v2 = some (Sum.inr r)) (E : EndX X cX5_readNot RX5 4 (none) d (n + 1) r I P O D Q) : Here X cX5_readNot RX5 4 (none) d (n + 1) 38 [some (.inr (.inr (5, 0, 0))), some (.inl v1), some (.inl v2), none] [] I P O D n Q := by
  unfold f_X5_readNot_38 at h
  refine h_aload_n dX5_readNot_38 rfl ?_
  refine h_iload_n dX5_readNot_39 rfl ?_
  rcases thb_X h with hh1 | ⟨y1, hh1, h⟩
  · exact h_callVX (as := [.inl v1]) (mx_X5_readTest  hh1) cw_X5_191 dX5_readNot_40 rfl ok_5 (by omega) rfl rfl E
  refine h_cVv [.inl v1] (m_X5_readTest (d := d - 1) rc dr Hrc (by omega)  hh1) cw_X5_191 dX5_readNot_40 rfl ok_5 (by omega) rfl (Or.inr rfl) rfl ?_
  refine h_iconst (0 : Int32) dX5_readNot_43 k_iconst_0 ?_
  refine h_istore_n dX5_readNot_44 (by decide) rfl ?_
  exact h_mask [true, false, true, true] (bx_X5_readNot_45 X Q rc dr Hrc hd FU  h E)
def f_X5_readNot_28 (rc : PMem → Mem → Int32 → Option ((Mem) ⊕ Nat)) (k2 : Mem → Int32 → Int32 → Option ((Mem) ⊕ Nat)) (P : PMem) (I : Mem) (v1 : Int32) (v2 : Int32) : Option ((Mem) ⊕ Nat) :=
  (f_X5_advance I).bind fun y1 =>
  k2 y1 v1 (v2 + (1 : Int32))
theorem b_X5_readNot_28 (X : CX) (Q : State → Prop) (rc : PMem → Mem → Int32 → Option ((Mem) ⊕ Nat)) (dr : Nat) (Hrc : ∀ {I : Mem} {P : PMem} {O : Nat → Int64} {D : Bool} {n : Nat} {v1 : Int32} {r : (Mem)}, rc P I v1 = some r → MethR yX5_readExpr cX5_readExpr 3 (none) dr [.inr (.inr (5, 0, 0)), .inl v1] I P O D n none r P O D n) {d : Nat} (hd : dr + 15 ≤ d) {I : Mem} {P : PMem} {O : Nat → Int64} {D : Bool} {n : Nat} {k2 : Mem → Int32 → Int32 → Option ((Mem) ⊕ Nat)} {v1 : Int32} {v2 : Int32} {r : (Mem)}  (H2 : ∀ (I : Mem) (v1 : Int32) (v2 : Int32), k2 I v1 v2 = some (Sum.inl r) → Here X cX5_readNot RX5 4 (none) d n 2 [some (.inr (.inr (5, 0, 0))), some (.inl v1), some (.inl v2), none] [] I P O D n Q) (h : f_X5_readNot_28 rc k2 P I v1 v2 = some (Sum.inl r)) (E : EndR X cX5_readNot RX5 4 (none) d n none r P O D Q) : Here X cX5_readNot RX5 4 (none) d n 28 [some (.inr (.inr (5, 0, 0))), some (.inl v1), some (.inl v2), none] [] I P O D n Q := by
  unfold f_X5_readNot_28 at h
  refine h_aload_n dX5_readNot_28 rfl ?_
  obtain ⟨y1, hh1, h⟩ := obd_some h
  refine h_cVv [] (m_X5_advance  hh1) cw_X5_43 dX5_readNot_29 rfl ok_5 (by omega) rfl (Or.inr rfl) rfl ?_
  refine h_iinc (1 : Int32) dX5_readNot_32 rfl k_iinc_1 (by decide) rfl ?_
  refine h_goto (tgt := 2) dX5_readNot_35 (by decide) ?_
  exact (H2 _ _ _ h)
theorem bx_X5_readNot_28 (X : CX) (Q : State → Prop) (rc : PMem → Mem → Int32 → Option ((Mem) ⊕ Nat)) (dr : Nat) (Hrc : ∀ {I : Mem} {P : PMem} {O : Nat → Int64} {D : Bool} {n : Nat} {v1 : Int32} {r : (Mem)}, rc P I v1 = some r → MethR yX5_readExpr cX5_readExpr 3 (none) dr [.inr (.inr (5, 0, 0)), .inl v1] I P O D n none r P O D n) {d : Nat} (hd : dr + 15 ≤ d) {I : Mem} {P : PMem} {O : Nat → Int64} {D : Bool} {n : Nat} {k2 : Mem → Int32 → Int32 → Option ((Mem) ⊕ Nat)} {v1 : Int32} {v2 : Int32} {r : Nat}  (H2 : ∀ (I : Mem) (v1 : Int32) (v2 : Int32), k2 I v1 v2 = some (Sum.inr r) → Here X cX5_readNot RX5 4 (none) d (n + 1) 2 [some (.inr (.inr (5, 0, 0))), some (.inl v1), some (.inl v2), none] [] I P O D n Q) (h : f_X5_readNot_28 rc k2 P I v1 v2 = some (Sum.inr r)) (E : EndX X cX5_readNot RX5 4 (none) d (n + 1) r I P O D Q) : Here X cX5_readNot RX5 4 (none) d (n + 1) 28 [some (.inr (.inr (5, 0, 0))), some (.inl v1), some (.inl v2), none] [] I P O D n Q := by
  unfold f_X5_readNot_28 at h
  refine h_aload_n dX5_readNot_28 rfl ?_
  obtain ⟨y1, hh1, h⟩ := obd_some h
  refine h_cVv [] (m_X5_advance  hh1) cw_X5_43 dX5_readNot_29 rfl ok_5 (by omega) rfl (Or.inr rfl) rfl ?_
  refine h_iinc (1 : Int32) dX5_readNot_32 rfl k_iinc_1 (by decide) rfl ?_
  refine h_goto (tgt := 2) dX5_readNot_35 (by decide) ?_
  exact (H2 _ _ _ h)
def f_X5_readNot_2 (rc : PMem → Mem → Int32 → Option ((Mem) ⊕ Nat))  (P : PMem) : Nat → Mem → Int32 → Int32 → Option ((Mem) ⊕ Nat)
  | 0, _, _, _ => none
  | fu + 1, I, v1, v2 =>
    if (6 : Int32) < v2 then (f_X5_readNot_38 rc P I v1 v2) else (thb (f_X5_isWord I 20) fun y1 =>
    if y1 = 0 then (f_X5_readNot_38 rc P I v1 v2) else (if v2 = (6 : Int32) then ((f_X5_refuse I (2 : Int32)).bind fun y2 =>
    f_X5_readNot_28 rc (f_X5_readNot_2 rc P fu) P y2 v1 v2) else (f_X5_readNot_28 rc (f_X5_readNot_2 rc P fu) P I v1 v2)))
theorem b_X5_readNot_2 (X : CX) (Q : State → Prop) (rc : PMem → Mem → Int32 → Option ((Mem) ⊕ Nat)) (dr : Nat) (Hrc : ∀ {I : Mem} {P : PMem} {O : Nat → Int64} {D : Bool} {n : Nat} {v1 : Int32} {r : (Mem)}, rc P I v1 = some r → MethR yX5_readExpr cX5_readExpr 3 (none) dr [.inr (.inr (5, 0, 0)), .inl v1] I P O D n none r P O D n) {d : Nat} (hd : dr + 15 ≤ d) {P : PMem} {O : Nat → Int64} {D : Bool} {n : Nat} {r : (Mem)}  : ∀ (fu : Nat) {I : Mem} {v1 : Int32} {v2 : Int32}, f_X5_readNot_2 rc P fu I v1 v2 = some (Sum.inl r) → EndR X cX5_readNot RX5 4 (none) d n none r P O D Q → Here X cX5_readNot RX5 4 (none) d n 2 [some (.inr (.inr (5, 0, 0))), some (.inl v1), some (.inl v2), none] [] I P O D n Q := by
  intro fu
  induction fu with
  | zero => intro I v1 v2 h E; cases h
  | succ fu ih =>
  intro I v1 v2 h E
  have H2 : ∀ (I : Mem) (v1 : Int32) (v2 : Int32), f_X5_readNot_2 rc P fu I v1 v2 = some (Sum.inl r) → Here X cX5_readNot RX5 4 (none) d n 2 [some (.inr (.inr (5, 0, 0))), some (.inl v1), some (.inl v2), none] [] I P O D n Q := fun _ _ _ b => ih b E
  simp only [f_X5_readNot_2] at h
  refine h_iload_n dX5_readNot_2 rfl ?_
  refine h_bipush (6 : Int32) dX5_readNot_3 k_bipush_6 ?_
  refine h_icmp_gt (tgt := 38) dX5_readNot_5 (by decide) (fun q1 => ?_) (fun q1 => ?_)
  · rw [if_pos q1] at h
    exact (b_X5_readNot_38 X Q rc dr Hrc hd  h E)
  · rw [if_neg q1] at h
    refine h_aload_n dX5_readNot_8 rfl ?_
    refine h_ldcs (text := "not") (j := 20) dX5_readNot_9 (by decide) ?_
    obtain ⟨y1, hh1, h⟩ := thb_R h
    refine h_cVi [.inr (.inr (90, 20, 0))] (m_X5_isWord (by decide) hh1) cw_X5_57 dX5_readNot_11 rfl ok_5 (by omega) rfl (Or.inr rfl) rfl ?_
    refine h_if_eq (tgt := 38) dX5_readNot_14 (by decide) (fun q2 => ?_) (fun q2 => ?_)
    · rw [if_pos q2] at h
      exact (b_X5_readNot_38 X Q rc dr Hrc hd  h E)
    · rw [if_neg q2] at h
      refine h_iload_n dX5_readNot_17 rfl ?_
      refine h_bipush (6 : Int32) dX5_readNot_18 k_bipush_6 ?_
      refine h_icmp_ne (tgt := 28) dX5_readNot_20 (by decide) (fun q3 => ?_) (fun q3 => ?_)
      · rw [if_neg q3] at h
        exact (b_X5_readNot_28 X Q rc dr Hrc hd H2  h E)
      · rw [if_pos q3] at h
        refine h_aload_n dX5_readNot_23 rfl ?_
        refine h_iconst (2 : Int32) dX5_readNot_24 k_iconst_2 ?_
        obtain ⟨y2, hh2, h⟩ := obd_some h
        refine h_cVv [.inl (2 : Int32)] (m_X5_refuse  hh2) cw_X5_94 dX5_readNot_25 rfl ok_5 (by omega) rfl (Or.inr rfl) rfl ?_
        exact (b_X5_readNot_28 X Q rc dr Hrc hd H2  h E)
theorem bx_X5_readNot_2 (X : CX) (Q : State → Prop) (rc : PMem → Mem → Int32 → Option ((Mem) ⊕ Nat)) (dr : Nat) (Hrc : ∀ {I : Mem} {P : PMem} {O : Nat → Int64} {D : Bool} {n : Nat} {v1 : Int32} {r : (Mem)}, rc P I v1 = some r → MethR yX5_readExpr cX5_readExpr 3 (none) dr [.inr (.inr (5, 0, 0)), .inl v1] I P O D n none r P O D n) {d : Nat} (hd : dr + 15 ≤ d) {P : PMem} {O : Nat → Int64} {D : Bool} {n : Nat} {r : Nat}  : ∀ (fu : Nat) {I : Mem} {v1 : Int32} {v2 : Int32}, f_X5_readNot_2 rc P fu I v1 v2 = some (Sum.inr r) → EndX X cX5_readNot RX5 4 (none) d (n + 1) r I P O D Q → Here X cX5_readNot RX5 4 (none) d (n + 1) 2 [some (.inr (.inr (5, 0, 0))), some (.inl v1), some (.inl v2), none] [] I P O D n Q := by
  intro fu
  induction fu with
  | zero => intro I v1 v2 h E; cases h
  | succ fu ih =>
  intro I v1 v2 h E
  have H2 : ∀ (I : Mem) (v1 : Int32) (v2 : Int32), f_X5_readNot_2 rc P fu I v1 v2 = some (Sum.inr r) → Here X cX5_readNot RX5 4 (none) d (n + 1) 2 [some (.inr (.inr (5, 0, 0))), some (.inl v1), some (.inl v2), none] [] I P O D n Q := fun _ _ _ b => ih b E
  simp only [f_X5_readNot_2] at h
  refine h_iload_n dX5_readNot_2 rfl ?_
  refine h_bipush (6 : Int32) dX5_readNot_3 k_bipush_6 ?_
  refine h_icmp_gt (tgt := 38) dX5_readNot_5 (by decide) (fun q1 => ?_) (fun q1 => ?_)
  · rw [if_pos q1] at h
    exact (bx_X5_readNot_38 X Q rc dr Hrc hd  h E)
  · rw [if_neg q1] at h
    refine h_aload_n dX5_readNot_8 rfl ?_
    refine h_ldcs (text := "not") (j := 20) dX5_readNot_9 (by decide) ?_
    rcases thb_X h with hh1 | ⟨y1, hh1, h⟩
    · exact h_callVX (as := [.inr (.inr (90, 20, 0))]) (mx_X5_isWord (by decide) hh1) cw_X5_57 dX5_readNot_11 rfl ok_5 (by omega) rfl rfl E
    refine h_cVi [.inr (.inr (90, 20, 0))] (m_X5_isWord (by decide) hh1) cw_X5_57 dX5_readNot_11 rfl ok_5 (by omega) rfl (Or.inr rfl) rfl ?_
    refine h_if_eq (tgt := 38) dX5_readNot_14 (by decide) (fun q2 => ?_) (fun q2 => ?_)
    · rw [if_pos q2] at h
      exact (bx_X5_readNot_38 X Q rc dr Hrc hd  h E)
    · rw [if_neg q2] at h
      refine h_iload_n dX5_readNot_17 rfl ?_
      refine h_bipush (6 : Int32) dX5_readNot_18 k_bipush_6 ?_
      refine h_icmp_ne (tgt := 28) dX5_readNot_20 (by decide) (fun q3 => ?_) (fun q3 => ?_)
      · rw [if_neg q3] at h
        exact (bx_X5_readNot_28 X Q rc dr Hrc hd H2  h E)
      · rw [if_pos q3] at h
        refine h_aload_n dX5_readNot_23 rfl ?_
        refine h_iconst (2 : Int32) dX5_readNot_24 k_iconst_2 ?_
        obtain ⟨y2, hh2, h⟩ := obd_some h
        refine h_cVv [.inl (2 : Int32)] (m_X5_refuse  hh2) cw_X5_94 dX5_readNot_25 rfl ok_5 (by omega) rfl (Or.inr rfl) rfl ?_
        exact (bx_X5_readNot_28 X Q rc dr Hrc hd H2  h E)
def f_X5_readNot (rc : PMem → Mem → Int32 → Option ((Mem) ⊕ Nat))  (P : PMem) (I : Mem) (v1 : Int32) : Option ((Mem) ⊕ Nat) :=
  f_X5_readNot_2 rc P FU I v1 (0 : Int32)
theorem b_X5_readNot (X : CX) (Q : State → Prop) (rc : PMem → Mem → Int32 → Option ((Mem) ⊕ Nat)) (dr : Nat) (Hrc : ∀ {I : Mem} {P : PMem} {O : Nat → Int64} {D : Bool} {n : Nat} {v1 : Int32} {r : (Mem)}, rc P I v1 = some r → MethR yX5_readExpr cX5_readExpr 3 (none) dr [.inr (.inr (5, 0, 0)), .inl v1] I P O D n none r P O D n) {d : Nat} (hd : dr + 15 ≤ d) {I : Mem} {P : PMem} {O : Nat → Int64} {D : Bool} {n : Nat} {v1 : Int32} {r : (Mem)}  (h : f_X5_readNot rc P I v1 = some (Sum.inl r)) (E : EndR X cX5_readNot RX5 4 (none) d n none r P O D Q) : Here X cX5_readNot RX5 4 (none) d n 0 [some (.inr (.inr (5, 0, 0))), some (.inl v1), none, none] [] I P O D n Q := by
  unfold f_X5_readNot at h
  refine h_iconst (0 : Int32) dX5_readNot_0 k_iconst_0 ?_
  refine h_istore_n dX5_readNot_1 (by decide) rfl ?_
  exact (b_X5_readNot_2 X Q rc dr Hrc hd FU  h E)
theorem bx_X5_readNot (X : CX) (Q : State → Prop) (rc : PMem → Mem → Int32 → Option ((Mem) ⊕ Nat)) (dr : Nat) (Hrc : ∀ {I : Mem} {P : PMem} {O : Nat → Int64} {D : Bool} {n : Nat} {v1 : Int32} {r : (Mem)}, rc P I v1 = some r → MethR yX5_readExpr cX5_readExpr 3 (none) dr [.inr (.inr (5, 0, 0)), .inl v1] I P O D n none r P O D n) {d : Nat} (hd : dr + 15 ≤ d) {I : Mem} {P : PMem} {O : Nat → Int64} {D : Bool} {n : Nat} {v1 : Int32} {r : Nat}  (h : f_X5_readNot rc P I v1 = some (Sum.inr r)) (E : EndX X cX5_readNot RX5 4 (none) d (n + 1) r I P O D Q) : Here X cX5_readNot RX5 4 (none) d (n + 1) 0 [some (.inr (.inr (5, 0, 0))), some (.inl v1), none, none] [] I P O D n Q := by
  unfold f_X5_readNot at h
  refine h_iconst (0 : Int32) dX5_readNot_0 k_iconst_0 ?_
  refine h_istore_n dX5_readNot_1 (by decide) rfl ?_
  exact (bx_X5_readNot_2 X Q rc dr Hrc hd FU  h E)
theorem m_X5_readNot (rc : PMem → Mem → Int32 → Option ((Mem) ⊕ Nat)) (dr : Nat) (Hrc : ∀ {I : Mem} {P : PMem} {O : Nat → Int64} {D : Bool} {n : Nat} {v1 : Int32} {r : (Mem)}, rc P I v1 = some r → MethR yX5_readExpr cX5_readExpr 3 (none) dr [.inr (.inr (5, 0, 0)), .inl v1] I P O D n none r P O D n) {d : Nat} (hd : dr + 15 ≤ d) {I : Mem} {P : PMem} {O : Nat → Int64} {D : Bool} {n : Nat} {v1 : Int32} {r : (Mem)}  (h : f_X5_readNot rc P I v1 = some (Sum.inl r)) : MethR yX5_readNot cX5_readNot 4 (none) d [.inr (.inr (5, 0, 0)), .inl v1] I P O D n none r P O D n := meth_R (Nat.le_refl _) (by decide) rfl (Nat.le_of_ble_eq_true rfl) rfl (fun X Q E => b_X5_readNot X Q rc dr Hrc hd  h E)
theorem mx_X5_readNot {I : Mem} {P : PMem} {O : Nat → Int64} {D : Bool} {n : Nat} {v1 : Int32} {r : Nat}  (h : f_X5_readNot rc P I v1 = some (Sum.inr r)) : MethX yX5_readNot cX5_readNot 4 (none) d [.inr (.inr (5, 0, 0)), .inl v1] I P O D n r I P O D (n + 1) := meth_X (Nat.le_succ _) (by decide) rfl (Nat.le_of_ble_eq_true rfl) rfl (fun X Q E => bx_X5_readNot X Q  h E)
def f_X5_readAnd_7 (rc : PMem → Mem → Int32 → Option ((Mem) ⊕ Nat))  (P : PMem) : Nat → Mem → Int32 → Int32 → Option ((Mem) ⊕ Nat)
  | 0, _, _, _ => none
  | fu + 1, I, v1, v2 =>
    if (600 : Int32) ≤ v2 then (some (Sum.inl I)) else (thb (f_X5_isWord I 8) fun y1 =>
    if y1 = 0 then (some (Sum.inl I)) else ((f_X5_advance I).bind fun y2 =>
    thb (f_X5_readNot rc P y2 v1) fun y3 =>
    gd (decide ((P 5 0 0 4) < 2)) <|
    (f_X4_add (P 5 0 0 4) y3 (10006 : Int32)).bind fun y4 =>
    (f_X5_readAnd_7 rc P fu) y4 v1 (v2 + (1 : Int32))))
theorem b_X5_readAnd_7 (X : CX) (Q : State → Prop) (rc : PMem → Mem → Int32 → Option ((Mem) ⊕ Nat)) (dr : Nat) (Hrc : ∀ {I : Mem} {P : PMem} {O : Nat → Int64} {D : Bool} {n : Nat} {v1 : Int32} {r : (Mem)}, rc P I v1 = some r → MethR yX5_readExpr cX5_readExpr 3 (none) dr [.inr (.inr (5, 0, 0)), .inl v1] I P O D n none r P O D n) {d : Nat} (hd : dr + 16 ≤ d) {P : PMem} {O : Nat → Int64} {D : Bool} {n : Nat} {r : (Mem)}  : ∀ (fu : Nat) {I : Mem} {v1 : Int32} {v2 : Int32}, f_X5_readAnd_7 rc P fu I v1 v2 = some (Sum.inl r) → EndR X cX5_readAnd RX5 3 (none) d n none r P O D Q → Here X cX5_readAnd RX5 3 (none) d n 7 [some (.inr (.inr (5, 0, 0))), some (.inl v1), some (.inl v2)] [] I P O D n Q := by
  intro fu
  induction fu with
  | zero => intro I v1 v2 h E; cases h
  | succ fu ih =>
  intro I v1 v2 h E
  have H7 : ∀ (I : Mem) (v1 : Int32) (v2 : Int32), f_X5_readAnd_7 rc P fu I v1 v2 = some (Sum.inl r) → Here X cX5_readAnd RX5 3 (none) d n 7 [some (.inr (.inr (5, 0, 0))), some (.inl v1), some (.inl v2)] [] I P O D n Q := fun _ _ _ b => ih b E
  simp only [f_X5_readAnd_7] at h
  refine h_iload_n dX5_readAnd_7 rfl ?_
  refine h_sipush (600 : Int32) dX5_readAnd_8 k_sipush_600 ?_
  refine h_icmp_ge (tgt := 51) dX5_readAnd_11 (by decide) (fun q1 => ?_) (fun q1 => ?_)
  · rw [if_pos q1] at h
    cases h
    exact h_vret dX5_readAnd_51 rfl E
  · rw [if_neg q1] at h
    refine h_aload_n dX5_readAnd_14 rfl ?_
    refine h_ldcs (text := "and") (j := 8) dX5_readAnd_15 (by decide) ?_
    obtain ⟨y1, hh1, h⟩ := thb_R h
    refine h_cVi [.inr (.inr (90, 8, 0))] (m_X5_isWord (by decide) hh1) cw_X5_57 dX5_readAnd_17 rfl ok_5 (by omega) rfl (Or.inr rfl) rfl ?_
    refine h_if_eq (tgt := 51) dX5_readAnd_20 (by decide) (fun q2 => ?_) (fun q2 => ?_)
    · rw [if_pos q2] at h
      cases h
      exact h_vret dX5_readAnd_51 rfl E
    · rw [if_neg q2] at h
      refine h_aload_n dX5_readAnd_23 rfl ?_
      obtain ⟨y2, hh2, h⟩ := obd_some h
      refine h_cVv [] (m_X5_advance  hh2) cw_X5_43 dX5_readAnd_24 rfl ok_5 (by omega) rfl (Or.inr rfl) rfl ?_
      refine h_aload_n dX5_readAnd_27 rfl ?_
      refine h_iload_n dX5_readAnd_28 rfl ?_
      obtain ⟨y3, hh3, h⟩ := thb_R h
      refine h_cVv [.inl v1] (m_X5_readNot (d := d - 1) rc dr Hrc (by omega)  hh3) cw_X5_184 dX5_readAnd_29 rfl ok_5 (by omega) rfl (Or.inr rfl) rfl ?_
      refine h_aload_n dX5_readAnd_32 rfl ?_
      refine g_X5_19  dX5_readAnd_33 ?_
      obtain ⟨g1, h⟩ := gd_some h
      have w1 := of_decide_eq_true g1
      refine g_X5_160 (by omega) dX5_readAnd_36 ?_
      refine h_sipush (10006 : Int32) dX5_readAnd_39 k_sipush_10006 ?_
      obtain ⟨y4, hh4, h⟩ := obd_some h
      refine h_cVv [.inl (10006 : Int32)] (m_X4_add (by omega) hh4) cw_X5_181 dX5_readAnd_42 rfl (ok_4 (by omega)) (by omega) rfl (Or.inr rfl) rfl ?_
      refine h_iinc (1 : Int32) dX5_readAnd_45 rfl k_iinc_1 (by decide) rfl ?_
      refine h_goto (tgt := 7) dX5_readAnd_48 (by decide) ?_
      exact (H7 _ _ _ h)
theorem bx_X5_readAnd_7 (X : CX) (Q : State → Prop) (rc : PMem → Mem → Int32 → Option ((Mem) ⊕ Nat)) (dr : Nat) (Hrc : ∀ {I : Mem} {P : PMem} {O : Nat → Int64} {D : Bool} {n : Nat} {v1 : Int32} {r : (Mem)}, rc P I v1 = some r → MethR yX5_readExpr cX5_readExpr 3 (none) dr [.inr (.inr (5, 0, 0)), .inl v1] I P O D n none r P O D n) {d : Nat} (hd : dr + 16 ≤ d) {P : PMem} {O : Nat → Int64} {D : Bool} {n : Nat} {r : Nat}  : ∀ (fu : Nat) {I : Mem} {v1 : Int32} {v2 : Int32}, f_X5_readAnd_7 rc P fu I v1 v2 = some (Sum.inr r) → EndX X cX5_readAnd RX5 3 (none) d (n + 1) r I P O D Q → Here X cX5_readAnd RX5 3 (none) d (n + 1) 7 [some (.inr (.inr (5, 0, 0))), some (.inl v1), some (.inl v2)] [] I P O D n Q := by
  intro fu
  induction fu with
  | zero => intro I v1 v2 h E; cases h
  | succ fu ih =>
  intro I v1 v2 h E
  have H7 : ∀ (I : Mem) (v1 : Int32) (v2 : Int32), f_X5_readAnd_7 rc P fu I v1 v2 = some (Sum.inr r) → Here X cX5_readAnd RX5 3 (none) d (n + 1) 7 [some (.inr (.inr (5, 0, 0))), some (.inl v1), some (.inl v2)] [] I P O D n Q := fun _ _ _ b => ih b E
  simp only [f_X5_readAnd_7] at h
  refine h_iload_n dX5_readAnd_7 rfl ?_
  refine h_sipush (600 : Int32) dX5_readAnd_8 k_sipush_600 ?_
  refine h_icmp_ge (tgt := 51) dX5_readAnd_11 (by decide) (fun q1 => ?_) (fun q1 => ?_)
  · rw [if_pos q1] at h
    cases h
  · rw [if_neg q1] at h
    refine h_aload_n dX5_readAnd_14 rfl ?_
    refine h_ldcs (text := "and") (j := 8) dX5_readAnd_15 (by decide) ?_
    rcases thb_X h with hh1 | ⟨y1, hh1, h⟩
    · exact h_callVX (as := [.inr (.inr (90, 8, 0))]) (mx_X5_isWord (by decide) hh1) cw_X5_57 dX5_readAnd_17 rfl ok_5 (by omega) rfl rfl E
    refine h_cVi [.inr (.inr (90, 8, 0))] (m_X5_isWord (by decide) hh1) cw_X5_57 dX5_readAnd_17 rfl ok_5 (by omega) rfl (Or.inr rfl) rfl ?_
    refine h_if_eq (tgt := 51) dX5_readAnd_20 (by decide) (fun q2 => ?_) (fun q2 => ?_)
    · rw [if_pos q2] at h
      cases h
    · rw [if_neg q2] at h
      refine h_aload_n dX5_readAnd_23 rfl ?_
      obtain ⟨y2, hh2, h⟩ := obd_some h
      refine h_cVv [] (m_X5_advance  hh2) cw_X5_43 dX5_readAnd_24 rfl ok_5 (by omega) rfl (Or.inr rfl) rfl ?_
      refine h_aload_n dX5_readAnd_27 rfl ?_
      refine h_iload_n dX5_readAnd_28 rfl ?_
      rcases thb_X h with hh3 | ⟨y3, hh3, h⟩
      · exact h_callVX (as := [.inl v1]) (mx_X5_readNot  hh3) cw_X5_184 dX5_readAnd_29 rfl ok_5 (by omega) rfl rfl E
      refine h_cVv [.inl v1] (m_X5_readNot (d := d - 1) rc dr Hrc (by omega)  hh3) cw_X5_184 dX5_readAnd_29 rfl ok_5 (by omega) rfl (Or.inr rfl) rfl ?_
      refine h_aload_n dX5_readAnd_32 rfl ?_
      refine g_X5_19  dX5_readAnd_33 ?_
      obtain ⟨g1, h⟩ := gd_some h
      have w1 := of_decide_eq_true g1
      refine g_X5_160 (by omega) dX5_readAnd_36 ?_
      refine h_sipush (10006 : Int32) dX5_readAnd_39 k_sipush_10006 ?_
      obtain ⟨y4, hh4, h⟩ := obd_some h
      refine h_cVv [.inl (10006 : Int32)] (m_X4_add (by omega) hh4) cw_X5_181 dX5_readAnd_42 rfl (ok_4 (by omega)) (by omega) rfl (Or.inr rfl) rfl ?_
      refine h_iinc (1 : Int32) dX5_readAnd_45 rfl k_iinc_1 (by decide) rfl ?_
      refine h_goto (tgt := 7) dX5_readAnd_48 (by decide) ?_
      exact (H7 _ _ _ h)
def f_X5_readAnd (rc : PMem → Mem → Int32 → Option ((Mem) ⊕ Nat))  (P : PMem) (I : Mem) (v1 : Int32) : Option ((Mem) ⊕ Nat) :=
  thb (f_X5_readNot rc P I v1) fun y1 =>
  f_X5_readAnd_7 rc P FU y1 v1 (0 : Int32)
theorem b_X5_readAnd (X : CX) (Q : State → Prop) (rc : PMem → Mem → Int32 → Option ((Mem) ⊕ Nat)) (dr : Nat) (Hrc : ∀ {I : Mem} {P : PMem} {O : Nat → Int64} {D : Bool} {n : Nat} {v1 : Int32} {r : (Mem)}, rc P I v1 = some r → MethR yX5_readExpr cX5_readExpr 3 (none) dr [.inr (.inr (5, 0, 0)), .inl v1] I P O D n none r P O D n) {d : Nat} (hd : dr + 16 ≤ d) {I : Mem} {P : PMem} {O : Nat → Int64} {D : Bool} {n : Nat} {v1 : Int32} {r : (Mem)}  (h : f_X5_readAnd rc P I v1 = some (Sum.inl r)) (E : EndR X cX5_readAnd RX5 3 (none) d n none r P O D Q) : Here X cX5_readAnd RX5 3 (none) d n 0 [some (.inr (.inr (5, 0, 0))), some (.inl v1), none] [] I P O D n Q := by
  unfold f_X5_readAnd at h
  refine h_aload_n dX5_readAnd_0 rfl ?_
  refine h_iload_n dX5_readAnd_1 rfl ?_
  obtain ⟨y1, hh1, h⟩ := thb_R h
  refine h_cVv [.inl v1] (m_X5_readNot (d := d - 1) rc dr Hrc (by omega)  hh1) cw_X5_184 dX5_readAnd_2 rfl ok_5 (by omega) rfl (Or.inr rfl) rfl ?_
  refine h_iconst (0 : Int32) dX5_readAnd_5 k_iconst_0 ?_
  refine h_istore_n dX5_readAnd_6 (by decide) rfl ?_
  exact (b_X5_readAnd_7 X Q rc dr Hrc hd FU  h E)
theorem bx_X5_readAnd (X : CX) (Q : State → Prop) (rc : PMem → Mem → Int32 → Option ((Mem) ⊕ Nat)) (dr : Nat) (Hrc : ∀ {I : Mem} {P : PMem} {O : Nat → Int64} {D : Bool} {n : Nat} {v1 : Int32} {r : (Mem)}, rc P I v1 = some r → MethR yX5_readExpr cX5_readExpr 3 (none) dr [.inr (.inr (5, 0, 0)), .inl v1] I P O D n none r P O D n) {d : Nat} (hd : dr + 16 ≤ d) {I : Mem} {P : PMem} {O : Nat → Int64} {D : Bool} {n : Nat} {v1 : Int32} {r : Nat}  (h : f_X5_readAnd rc P I v1 = some (Sum.inr r)) (E : EndX X cX5_readAnd RX5 3 (none) d (n + 1) r I P O D Q) : Here X cX5_readAnd RX5 3 (none) d (n + 1) 0 [some (.inr (.inr (5, 0, 0))), some (.inl v1), none] [] I P O D n Q := by
  unfold f_X5_readAnd at h
  refine h_aload_n dX5_readAnd_0 rfl ?_
  refine h_iload_n dX5_readAnd_1 rfl ?_
  rcases thb_X h with hh1 | ⟨y1, hh1, h⟩
  · exact h_callVX (as := [.inl v1]) (mx_X5_readNot  hh1) cw_X5_184 dX5_readAnd_2 rfl ok_5 (by omega) rfl rfl E
  refine h_cVv [.inl v1] (m_X5_readNot (d := d - 1) rc dr Hrc (by omega)  hh1) cw_X5_184 dX5_readAnd_2 rfl ok_5 (by omega) rfl (Or.inr rfl) rfl ?_
  refine h_iconst (0 : Int32) dX5_readAnd_5 k_iconst_0 ?_
  refine h_istore_n dX5_readAnd_6 (by decide) rfl ?_
  exact (bx_X5_readAnd_7 X Q rc dr Hrc hd FU  h E)
theorem m_X5_readAnd (rc : PMem → Mem → Int32 → Option ((Mem) ⊕ Nat)) (dr : Nat) (Hrc : ∀ {I : Mem} {P : PMem} {O : Nat → Int64} {D : Bool} {n : Nat} {v1 : Int32} {r : (Mem)}, rc P I v1 = some r → MethR yX5_readExpr cX5_readExpr 3 (none) dr [.inr (.inr (5, 0, 0)), .inl v1] I P O D n none r P O D n) {d : Nat} (hd : dr + 16 ≤ d) {I : Mem} {P : PMem} {O : Nat → Int64} {D : Bool} {n : Nat} {v1 : Int32} {r : (Mem)}  (h : f_X5_readAnd rc P I v1 = some (Sum.inl r)) : MethR yX5_readAnd cX5_readAnd 3 (none) d [.inr (.inr (5, 0, 0)), .inl v1] I P O D n none r P O D n := meth_R (Nat.le_refl _) (by decide) rfl (Nat.le_of_ble_eq_true rfl) rfl (fun X Q E => b_X5_readAnd X Q rc dr Hrc hd  h E)
theorem mx_X5_readAnd {I : Mem} {P : PMem} {O : Nat → Int64} {D : Bool} {n : Nat} {v1 : Int32} {r : Nat}  (h : f_X5_readAnd rc P I v1 = some (Sum.inr r)) : MethX yX5_readAnd cX5_readAnd 3 (none) d [.inr (.inr (5, 0, 0)), .inl v1] I P O D n r I P O D (n + 1) := meth_X (Nat.le_succ _) (by decide) rfl (Nat.le_of_ble_eq_true rfl) rfl (fun X Q E => bx_X5_readAnd X Q  h E)
def f_X5_readExpr_48 (rc : PMem → Mem → Int32 → Option ((Mem) ⊕ Nat))  (P : PMem) : Nat → Mem → Int32 → Int32 → Option ((Mem) ⊕ Nat)
  | 0, _, _, _ => none
  | fu + 1, I, v1, v2 =>
    if (600 : Int32) ≤ v2 then (some (Sum.inl I)) else (thb (f_X5_isWord I 22) fun y1 =>
    if y1 = 0 then (some (Sum.inl I)) else ((f_X5_advance I).bind fun y2 =>
    thb (f_X5_readAnd rc P y2 v1) fun y3 =>
    gd (decide ((P 5 0 0 4) < 2)) <|
    (f_X4_add (P 5 0 0 4) y3 (10005 : Int32)).bind fun y4 =>
    (f_X5_readExpr_48 rc P fu) y4 v1 (v2 + (1 : Int32))))
theorem b_X5_readExpr_48 (X : CX) (Q : State → Prop) (rc : PMem → Mem → Int32 → Option ((Mem) ⊕ Nat)) (dr : Nat) (Hrc : ∀ {I : Mem} {P : PMem} {O : Nat → Int64} {D : Bool} {n : Nat} {v1 : Int32} {r : (Mem)}, rc P I v1 = some r → MethR yX5_readExpr cX5_readExpr 3 (none) dr [.inr (.inr (5, 0, 0)), .inl v1] I P O D n none r P O D n) {d : Nat} (hd : dr + 17 ≤ d) {P : PMem} {O : Nat → Int64} {D : Bool} {n : Nat} {r : (Mem)}  : ∀ (fu : Nat) {I : Mem} {v1 : Int32} {v2 : Int32}, f_X5_readExpr_48 rc P fu I v1 v2 = some (Sum.inl r) → EndR X cX5_readExpr RX5 3 (none) d n none r P O D Q → Here X cX5_readExpr RX5 3 (none) d n 48 [some (.inr (.inr (5, 0, 0))), some (.inl v1), some (.inl v2)] [] I P O D n Q := by
  intro fu
  induction fu with
  | zero => intro I v1 v2 h E; cases h
  | succ fu ih =>
  intro I v1 v2 h E
  have H48 : ∀ (I : Mem) (v1 : Int32) (v2 : Int32), f_X5_readExpr_48 rc P fu I v1 v2 = some (Sum.inl r) → Here X cX5_readExpr RX5 3 (none) d n 48 [some (.inr (.inr (5, 0, 0))), some (.inl v1), some (.inl v2)] [] I P O D n Q := fun _ _ _ b => ih b E
  simp only [f_X5_readExpr_48] at h
  refine h_iload_n dX5_readExpr_48 rfl ?_
  refine h_sipush (600 : Int32) dX5_readExpr_49 k_sipush_600 ?_
  refine h_icmp_ge (tgt := 92) dX5_readExpr_52 (by decide) (fun q1 => ?_) (fun q1 => ?_)
  · rw [if_pos q1] at h
    cases h
    exact h_vret dX5_readExpr_92 rfl E
  · rw [if_neg q1] at h
    refine h_aload_n dX5_readExpr_55 rfl ?_
    refine h_ldcs (text := "or") (j := 22) dX5_readExpr_56 (by decide) ?_
    obtain ⟨y1, hh1, h⟩ := thb_R h
    refine h_cVi [.inr (.inr (90, 22, 0))] (m_X5_isWord (by decide) hh1) cw_X5_57 dX5_readExpr_58 rfl ok_5 (by omega) rfl (Or.inr rfl) rfl ?_
    refine h_if_eq (tgt := 92) dX5_readExpr_61 (by decide) (fun q2 => ?_) (fun q2 => ?_)
    · rw [if_pos q2] at h
      cases h
      exact h_vret dX5_readExpr_92 rfl E
    · rw [if_neg q2] at h
      refine h_aload_n dX5_readExpr_64 rfl ?_
      obtain ⟨y2, hh2, h⟩ := obd_some h
      refine h_cVv [] (m_X5_advance  hh2) cw_X5_43 dX5_readExpr_65 rfl ok_5 (by omega) rfl (Or.inr rfl) rfl ?_
      refine h_aload_n dX5_readExpr_68 rfl ?_
      refine h_iload_n dX5_readExpr_69 rfl ?_
      obtain ⟨y3, hh3, h⟩ := thb_R h
      refine h_cVv [.inl v1] (m_X5_readAnd (d := d - 1) rc dr Hrc (by omega)  hh3) cw_X5_176 dX5_readExpr_70 rfl ok_5 (by omega) rfl (Or.inr rfl) rfl ?_
      refine h_aload_n dX5_readExpr_73 rfl ?_
      refine g_X5_19  dX5_readExpr_74 ?_
      obtain ⟨g1, h⟩ := gd_some h
      have w1 := of_decide_eq_true g1
      refine g_X5_160 (by omega) dX5_readExpr_77 ?_
      refine h_sipush (10005 : Int32) dX5_readExpr_80 k_sipush_10005 ?_
      obtain ⟨y4, hh4, h⟩ := obd_some h
      refine h_cVv [.inl (10005 : Int32)] (m_X4_add (by omega) hh4) cw_X5_181 dX5_readExpr_83 rfl (ok_4 (by omega)) (by omega) rfl (Or.inr rfl) rfl ?_
      refine h_iinc (1 : Int32) dX5_readExpr_86 rfl k_iinc_1 (by decide) rfl ?_
      refine h_goto (tgt := 48) dX5_readExpr_89 (by decide) ?_
      exact (H48 _ _ _ h)
theorem bx_X5_readExpr_48 (X : CX) (Q : State → Prop) (rc : PMem → Mem → Int32 → Option ((Mem) ⊕ Nat)) (dr : Nat) (Hrc : ∀ {I : Mem} {P : PMem} {O : Nat → Int64} {D : Bool} {n : Nat} {v1 : Int32} {r : (Mem)}, rc P I v1 = some r → MethR yX5_readExpr cX5_readExpr 3 (none) dr [.inr (.inr (5, 0, 0)), .inl v1] I P O D n none r P O D n) {d : Nat} (hd : dr + 17 ≤ d) {P : PMem} {O : Nat → Int64} {D : Bool} {n : Nat} {r : Nat}  : ∀ (fu : Nat) {I : Mem} {v1 : Int32} {v2 : Int32}, f_X5_readExpr_48 rc P fu I v1 v2 = some (Sum.inr r) → EndX X cX5_readExpr RX5 3 (none) d (n + 1) r I P O D Q → Here X cX5_readExpr RX5 3 (none) d (n + 1) 48 [some (.inr (.inr (5, 0, 0))), some (.inl v1), some (.inl v2)] [] I P O D n Q := by
  intro fu
  induction fu with
  | zero => intro I v1 v2 h E; cases h
  | succ fu ih =>
  intro I v1 v2 h E
  have H48 : ∀ (I : Mem) (v1 : Int32) (v2 : Int32), f_X5_readExpr_48 rc P fu I v1 v2 = some (Sum.inr r) → Here X cX5_readExpr RX5 3 (none) d (n + 1) 48 [some (.inr (.inr (5, 0, 0))), some (.inl v1), some (.inl v2)] [] I P O D n Q := fun _ _ _ b => ih b E
  simp only [f_X5_readExpr_48] at h
  refine h_iload_n dX5_readExpr_48 rfl ?_
  refine h_sipush (600 : Int32) dX5_readExpr_49 k_sipush_600 ?_
  refine h_icmp_ge (tgt := 92) dX5_readExpr_52 (by decide) (fun q1 => ?_) (fun q1 => ?_)
  · rw [if_pos q1] at h
    cases h
  · rw [if_neg q1] at h
    refine h_aload_n dX5_readExpr_55 rfl ?_
    refine h_ldcs (text := "or") (j := 22) dX5_readExpr_56 (by decide) ?_
    rcases thb_X h with hh1 | ⟨y1, hh1, h⟩
    · exact h_callVX (as := [.inr (.inr (90, 22, 0))]) (mx_X5_isWord (by decide) hh1) cw_X5_57 dX5_readExpr_58 rfl ok_5 (by omega) rfl rfl E
    refine h_cVi [.inr (.inr (90, 22, 0))] (m_X5_isWord (by decide) hh1) cw_X5_57 dX5_readExpr_58 rfl ok_5 (by omega) rfl (Or.inr rfl) rfl ?_
    refine h_if_eq (tgt := 92) dX5_readExpr_61 (by decide) (fun q2 => ?_) (fun q2 => ?_)
    · rw [if_pos q2] at h
      cases h
    · rw [if_neg q2] at h
      refine h_aload_n dX5_readExpr_64 rfl ?_
      obtain ⟨y2, hh2, h⟩ := obd_some h
      refine h_cVv [] (m_X5_advance  hh2) cw_X5_43 dX5_readExpr_65 rfl ok_5 (by omega) rfl (Or.inr rfl) rfl ?_
      refine h_aload_n dX5_readExpr_68 rfl ?_
      refine h_iload_n dX5_readExpr_69 rfl ?_
      rcases thb_X h with hh3 | ⟨y3, hh3, h⟩
      · exact h_callVX (as := [.inl v1]) (mx_X5_readAnd  hh3) cw_X5_176 dX5_readExpr_70 rfl ok_5 (by omega) rfl rfl E
      refine h_cVv [.inl v1] (m_X5_readAnd (d := d - 1) rc dr Hrc (by omega)  hh3) cw_X5_176 dX5_readExpr_70 rfl ok_5 (by omega) rfl (Or.inr rfl) rfl ?_
      refine h_aload_n dX5_readExpr_73 rfl ?_
      refine g_X5_19  dX5_readExpr_74 ?_
      obtain ⟨g1, h⟩ := gd_some h
      have w1 := of_decide_eq_true g1
      refine g_X5_160 (by omega) dX5_readExpr_77 ?_
      refine h_sipush (10005 : Int32) dX5_readExpr_80 k_sipush_10005 ?_
      obtain ⟨y4, hh4, h⟩ := obd_some h
      refine h_cVv [.inl (10005 : Int32)] (m_X4_add (by omega) hh4) cw_X5_181 dX5_readExpr_83 rfl (ok_4 (by omega)) (by omega) rfl (Or.inr rfl) rfl ?_
      refine h_iinc (1 : Int32) dX5_readExpr_86 rfl k_iinc_1 (by decide) rfl ?_
      refine h_goto (tgt := 48) dX5_readExpr_89 (by decide) ?_
      exact (H48 _ _ _ h)
def f_X5_readExpr_37 (rc : PMem → Mem → Int32 → Option ((Mem) ⊕ Nat))  (P : PMem) (I : Mem) (s0 : Int32) : Option ((Mem) ⊕ Nat) :=
  (f_X5_refuse I s0).bind fun y1 =>
  some (Sum.inl y1)
theorem b_X5_readExpr_37 (X : CX) (Q : State → Prop) (rc : PMem → Mem → Int32 → Option ((Mem) ⊕ Nat)) (dr : Nat) (Hrc : ∀ {I : Mem} {P : PMem} {O : Nat → Int64} {D : Bool} {n : Nat} {v1 : Int32} {r : (Mem)}, rc P I v1 = some r → MethR yX5_readExpr cX5_readExpr 3 (none) dr [.inr (.inr (5, 0, 0)), .inl v1] I P O D n none r P O D n) {d : Nat} (hd : dr + 17 ≤ d) {I : Mem} {P : PMem} {O : Nat → Int64} {D : Bool} {n : Nat} {s0 : Int32} {r : (Mem)}  (h : f_X5_readExpr_37 rc P I s0 = some (Sum.inl r)) (E : EndR X cX5_readExpr RX5 3 (none) d n none r P O D Q) : Here X cX5_readExpr RX5 3 (none) d n 37 [none, none, none] [.inl s0, .inr (.inr (5, 0, 0))] I P O D n Q := by
  unfold f_X5_readExpr_37 at h
  obtain ⟨y1, hh1, h⟩ := obd_some h
  refine h_cVv [.inl s0] (m_X5_refuse  hh1) cw_X5_94 dX5_readExpr_37 rfl ok_5 (by omega) rfl (Or.inr rfl) rfl ?_
  cases h
  exact h_vret dX5_readExpr_40 rfl E
theorem bx_X5_readExpr_37 (X : CX) (Q : State → Prop) (rc : PMem → Mem → Int32 → Option ((Mem) ⊕ Nat)) (dr : Nat) (Hrc : ∀ {I : Mem} {P : PMem} {O : Nat → Int64} {D : Bool} {n : Nat} {v1 : Int32} {r : (Mem)}, rc P I v1 = some r → MethR yX5_readExpr cX5_readExpr 3 (none) dr [.inr (.inr (5, 0, 0)), .inl v1] I P O D n none r P O D n) {d : Nat} (hd : dr + 17 ≤ d) {I : Mem} {P : PMem} {O : Nat → Int64} {D : Bool} {n : Nat} {s0 : Int32} {r : Nat}  (h : f_X5_readExpr_37 rc P I s0 = some (Sum.inr r)) (E : EndX X cX5_readExpr RX5 3 (none) d (n + 1) r I P O D Q) : Here X cX5_readExpr RX5 3 (none) d (n + 1) 37 [none, none, none] [.inl s0, .inr (.inr (5, 0, 0))] I P O D n Q := by
  unfold f_X5_readExpr_37 at h
  obtain ⟨y1, hh1, h⟩ := obd_some h
  refine h_cVv [.inl s0] (m_X5_refuse  hh1) cw_X5_94 dX5_readExpr_37 rfl ok_5 (by omega) rfl (Or.inr rfl) rfl ?_
  cases h
def f_X5_readExpr_32 (rc : PMem → Mem → Int32 → Option ((Mem) ⊕ Nat))  (P : PMem) (I : Mem) : Option ((Mem) ⊕ Nat) :=
  f_X5_readExpr_37 rc P I (2 : Int32)
theorem b_X5_readExpr_32 (X : CX) (Q : State → Prop) (rc : PMem → Mem → Int32 → Option ((Mem) ⊕ Nat)) (dr : Nat) (Hrc : ∀ {I : Mem} {P : PMem} {O : Nat → Int64} {D : Bool} {n : Nat} {v1 : Int32} {r : (Mem)}, rc P I v1 = some r → MethR yX5_readExpr cX5_readExpr 3 (none) dr [.inr (.inr (5, 0, 0)), .inl v1] I P O D n none r P O D n) {d : Nat} (hd : dr + 17 ≤ d) {I : Mem} {P : PMem} {O : Nat → Int64} {D : Bool} {n : Nat} {r : (Mem)}  (h : f_X5_readExpr_32 rc P I = some (Sum.inl r)) (E : EndR X cX5_readExpr RX5 3 (none) d n none r P O D Q) : Here X cX5_readExpr RX5 3 (none) d n 32 [none, none, none] [.inr (.inr (5, 0, 0))] I P O D n Q := by
  unfold f_X5_readExpr_32 at h
  refine h_iconst (2 : Int32) dX5_readExpr_32 k_iconst_2 ?_
  refine h_goto (tgt := 37) dX5_readExpr_33 (by decide) ?_
  exact (b_X5_readExpr_37 X Q rc dr Hrc hd  h E)
theorem bx_X5_readExpr_32 (X : CX) (Q : State → Prop) (rc : PMem → Mem → Int32 → Option ((Mem) ⊕ Nat)) (dr : Nat) (Hrc : ∀ {I : Mem} {P : PMem} {O : Nat → Int64} {D : Bool} {n : Nat} {v1 : Int32} {r : (Mem)}, rc P I v1 = some r → MethR yX5_readExpr cX5_readExpr 3 (none) dr [.inr (.inr (5, 0, 0)), .inl v1] I P O D n none r P O D n) {d : Nat} (hd : dr + 17 ≤ d) {I : Mem} {P : PMem} {O : Nat → Int64} {D : Bool} {n : Nat} {r : Nat}  (h : f_X5_readExpr_32 rc P I = some (Sum.inr r)) (E : EndX X cX5_readExpr RX5 3 (none) d (n + 1) r I P O D Q) : Here X cX5_readExpr RX5 3 (none) d (n + 1) 32 [none, none, none] [.inr (.inr (5, 0, 0))] I P O D n Q := by
  unfold f_X5_readExpr_32 at h
  refine h_iconst (2 : Int32) dX5_readExpr_32 k_iconst_2 ?_
  refine h_goto (tgt := 37) dX5_readExpr_33 (by decide) ?_
  exact (bx_X5_readExpr_37 X Q rc dr Hrc hd  h E)
def f_X5_readExpr (rc : PMem → Mem → Int32 → Option ((Mem) ⊕ Nat))  (P : PMem) (I : Mem) (v1 : Int32) : Option ((Mem) ⊕ Nat) :=
  if v1 < (6 : Int32) then (thb (f_X5_readAnd rc P I v1) fun y1 =>
  f_X5_readExpr_48 rc P FU y1 v1 (0 : Int32)) else (if (I 5 0 0 5) = (2 : Int32) then (f_X5_readExpr_32 rc P I) else (if (I 5 0 0 5) = (1 : Int32) then (f_X5_readExpr_32 rc P I) else ((f_X5_isSign I (40 : Int32)).bind fun y2 =>
  if y2 = 0 then (f_X5_readExpr_37 rc P I (1 : Int32)) else (f_X5_readExpr_32 rc P I))))
theorem b_X5_readExpr (X : CX) (Q : State → Prop) (rc : PMem → Mem → Int32 → Option ((Mem) ⊕ Nat)) (dr : Nat) (Hrc : ∀ {I : Mem} {P : PMem} {O : Nat → Int64} {D : Bool} {n : Nat} {v1 : Int32} {r : (Mem)}, rc P I v1 = some r → MethR yX5_readExpr cX5_readExpr 3 (none) dr [.inr (.inr (5, 0, 0)), .inl v1] I P O D n none r P O D n) {d : Nat} (hd : dr + 17 ≤ d) {I : Mem} {P : PMem} {O : Nat → Int64} {D : Bool} {n : Nat} {v1 : Int32} {r : (Mem)}  (h : f_X5_readExpr rc P I v1 = some (Sum.inl r)) (E : EndR X cX5_readExpr RX5 3 (none) d n none r P O D Q) : Here X cX5_readExpr RX5 3 (none) d n 0 [some (.inr (.inr (5, 0, 0))), some (.inl v1), none] [] I P O D n Q := by
  unfold f_X5_readExpr at h
  refine h_iload_n dX5_readExpr_0 rfl ?_
  refine h_bipush (6 : Int32) dX5_readExpr_1 k_bipush_6 ?_
  refine h_icmp_lt (tgt := 41) dX5_readExpr_3 (by decide) (fun q1 => ?_) (fun q1 => ?_)
  · rw [if_pos q1] at h
    refine h_aload_n dX5_readExpr_41 rfl ?_
    refine h_iload_n dX5_readExpr_42 rfl ?_
    obtain ⟨y1, hh1, h⟩ := thb_R h
    refine h_cVv [.inl v1] (m_X5_readAnd (d := d - 1) rc dr Hrc (by omega)  hh1) cw_X5_176 dX5_readExpr_43 rfl ok_5 (by omega) rfl (Or.inr rfl) rfl ?_
    refine h_iconst (0 : Int32) dX5_readExpr_46 k_iconst_0 ?_
    refine h_istore_n dX5_readExpr_47 (by decide) rfl ?_
    exact (b_X5_readExpr_48 X Q rc dr Hrc hd FU  h E)
  · rw [if_neg q1] at h
    refine h_aload_n dX5_readExpr_6 rfl ?_
    refine h_aload_n dX5_readExpr_7 rfl ?_
    refine g_X5_46  dX5_readExpr_8 ?_
    refine h_iconst (2 : Int32) dX5_readExpr_11 k_iconst_2 ?_
    refine h_icmp_eq (tgt := 32) dX5_readExpr_12 (by decide) (fun q2 => ?_) (fun q2 => ?_)
    · rw [if_pos q2] at h
      exact h_mask [false, false, false] (b_X5_readExpr_32 X Q rc dr Hrc hd  h E)
    · rw [if_neg q2] at h
      refine h_aload_n dX5_readExpr_15 rfl ?_
      refine g_X5_46  dX5_readExpr_16 ?_
      refine h_iconst (1 : Int32) dX5_readExpr_19 k_iconst_1 ?_
      refine h_icmp_eq (tgt := 32) dX5_readExpr_20 (by decide) (fun q3 => ?_) (fun q3 => ?_)
      · rw [if_pos q3] at h
        exact h_mask [false, false, false] (b_X5_readExpr_32 X Q rc dr Hrc hd  h E)
      · rw [if_neg q3] at h
        refine h_aload_n dX5_readExpr_23 rfl ?_
        refine h_bipush (40 : Int32) dX5_readExpr_24 k_bipush_40 ?_
        obtain ⟨y2, hh2, h⟩ := obd_some h
        refine h_cVi [.inl (40 : Int32)] (m_X5_isSign  hh2) cw_X5_172 dX5_readExpr_26 rfl ok_5 (by omega) rfl (Or.inr rfl) rfl ?_
        refine h_if_eq (tgt := 36) dX5_readExpr_29 (by decide) (fun q4 => ?_) (fun q4 => ?_)
        · rw [if_pos q4] at h
          refine h_iconst (1 : Int32) dX5_readExpr_36 k_iconst_1 ?_
          exact h_mask [false, false, false] (b_X5_readExpr_37 X Q rc dr Hrc hd  h E)
        · rw [if_neg q4] at h
          exact h_mask [false, false, false] (b_X5_readExpr_32 X Q rc dr Hrc hd  h E)
theorem bx_X5_readExpr (X : CX) (Q : State → Prop) (rc : PMem → Mem → Int32 → Option ((Mem) ⊕ Nat)) (dr : Nat) (Hrc : ∀ {I : Mem} {P : PMem} {O : Nat → Int64} {D : Bool} {n : Nat} {v1 : Int32} {r : (Mem)}, rc P I v1 = some r → MethR yX5_readExpr cX5_readExpr 3 (none) dr [.inr (.inr (5, 0, 0)), .inl v1] I P O D n none r P O D n) {d : Nat} (hd : dr + 17 ≤ d) {I : Mem} {P : PMem} {O : Nat → Int64} {D : Bool} {n : Nat} {v1 : Int32} {r : Nat}  (h : f_X5_readExpr rc P I v1 = some (Sum.inr r)) (E : EndX X cX5_readExpr RX5 3 (none) d (n + 1) r I P O D Q) : Here X cX5_readExpr RX5 3 (none) d (n + 1) 0 [some (.inr (.inr (5, 0, 0))), some (.inl v1), none] [] I P O D n Q := by
  unfold f_X5_readExpr at h
  refine h_iload_n dX5_readExpr_0 rfl ?_
  refine h_bipush (6 : Int32) dX5_readExpr_1 k_bipush_6 ?_
  refine h_icmp_lt (tgt := 41) dX5_readExpr_3 (by decide) (fun q1 => ?_) (fun q1 => ?_)
  · rw [if_pos q1] at h
    refine h_aload_n dX5_readExpr_41 rfl ?_
    refine h_iload_n dX5_readExpr_42 rfl ?_
    rcases thb_X h with hh1 | ⟨y1, hh1, h⟩
    · exact h_callVX (as := [.inl v1]) (mx_X5_readAnd  hh1) cw_X5_176 dX5_readExpr_43 rfl ok_5 (by omega) rfl rfl E
    refine h_cVv [.inl v1] (m_X5_readAnd (d := d - 1) rc dr Hrc (by omega)  hh1) cw_X5_176 dX5_readExpr_43 rfl ok_5 (by omega) rfl (Or.inr rfl) rfl ?_
    refine h_iconst (0 : Int32) dX5_readExpr_46 k_iconst_0 ?_
    refine h_istore_n dX5_readExpr_47 (by decide) rfl ?_
    exact (bx_X5_readExpr_48 X Q rc dr Hrc hd FU  h E)
  · rw [if_neg q1] at h
    refine h_aload_n dX5_readExpr_6 rfl ?_
    refine h_aload_n dX5_readExpr_7 rfl ?_
    refine g_X5_46  dX5_readExpr_8 ?_
    refine h_iconst (2 : Int32) dX5_readExpr_11 k_iconst_2 ?_
    refine h_icmp_eq (tgt := 32) dX5_readExpr_12 (by decide) (fun q2 => ?_) (fun q2 => ?_)
    · rw [if_pos q2] at h
      exact h_mask [false, false, false] (bx_X5_readExpr_32 X Q rc dr Hrc hd  h E)
    · rw [if_neg q2] at h
      refine h_aload_n dX5_readExpr_15 rfl ?_
      refine g_X5_46  dX5_readExpr_16 ?_
      refine h_iconst (1 : Int32) dX5_readExpr_19 k_iconst_1 ?_
      refine h_icmp_eq (tgt := 32) dX5_readExpr_20 (by decide) (fun q3 => ?_) (fun q3 => ?_)
      · rw [if_pos q3] at h
        exact h_mask [false, false, false] (bx_X5_readExpr_32 X Q rc dr Hrc hd  h E)
      · rw [if_neg q3] at h
        refine h_aload_n dX5_readExpr_23 rfl ?_
        refine h_bipush (40 : Int32) dX5_readExpr_24 k_bipush_40 ?_
        obtain ⟨y2, hh2, h⟩ := obd_some h
        refine h_cVi [.inl (40 : Int32)] (m_X5_isSign  hh2) cw_X5_172 dX5_readExpr_26 rfl ok_5 (by omega) rfl (Or.inr rfl) rfl ?_
        refine h_if_eq (tgt := 36) dX5_readExpr_29 (by decide) (fun q4 => ?_) (fun q4 => ?_)
        · rw [if_pos q4] at h
          refine h_iconst (1 : Int32) dX5_readExpr_36 k_iconst_1 ?_
          exact h_mask [false, false, false] (bx_X5_readExpr_37 X Q rc dr Hrc hd  h E)
        · rw [if_neg q4] at h
          exact h_mask [false, false, false] (bx_X5_readExpr_32 X Q rc dr Hrc hd  h E)
theorem m_X5_readExpr (rc : PMem → Mem → Int32 → Option ((Mem) ⊕ Nat)) (dr : Nat) (Hrc : ∀ {I : Mem} {P : PMem} {O : Nat → Int64} {D : Bool} {n : Nat} {v1 : Int32} {r : (Mem)}, rc P I v1 = some r → MethR yX5_readExpr cX5_readExpr 3 (none) dr [.inr (.inr (5, 0, 0)), .inl v1] I P O D n none r P O D n) {d : Nat} (hd : dr + 17 ≤ d) {I : Mem} {P : PMem} {O : Nat → Int64} {D : Bool} {n : Nat} {v1 : Int32} {r : (Mem)}  (h : f_X5_readExpr rc P I v1 = some (Sum.inl r)) : MethR yX5_readExpr cX5_readExpr 3 (none) d [.inr (.inr (5, 0, 0)), .inl v1] I P O D n none r P O D n := meth_R (Nat.le_refl _) (by decide) rfl (Nat.le_of_ble_eq_true rfl) rfl (fun X Q E => b_X5_readExpr X Q rc dr Hrc hd  h E)
theorem mx_X5_readExpr {I : Mem} {P : PMem} {O : Nat → Int64} {D : Bool} {n : Nat} {v1 : Int32} {r : Nat}  (h : f_X5_readExpr rc P I v1 = some (Sum.inr r)) : MethX yX5_readExpr cX5_readExpr 3 (none) d [.inr (.inr (5, 0, 0)), .inl v1] I P O D n r I P O D (n + 1) := meth_X (Nat.le_succ _) (by decide) rfl (Nat.le_of_ble_eq_true rfl) rfl (fun X Q E => bx_X5_readExpr X Q  h E)
def F_X5_readExpr : Nat → PMem → Mem → Int32 → Option ((Mem) ⊕ Nat)
  | 0, _, _, _ => none
  | k + 1, P, I, v1 => f_X5_readExpr (F_X5_readExpr k) P I v1
theorem mF_X5_readExpr : ∀ (k : Nat) {I : Mem} {P : PMem} {O : Nat → Int64} {D : Bool} {n : Nat} {v1 : Int32} {r : (Mem)}, F_X5_readExpr k P I v1 = some r → MethR yX5_readExpr cX5_readExpr 3 (none) (20 * k) [.inr (.inr (5, 0, 0)), .inl v1] I P O D n none r P O D n := by
  intro k
  induction k with
  | zero => intro I P O D n v1 r h; cases h
  | succ k ih => intro I P O D n v1 r h; exact m_X5_readExpr (F_X5_readExpr k) (20 * k) ih (by omega) h
def f_X5_readLaw  (P : PMem) (I : Mem) : Option ((Mem) ⊕ Nat) :=
  gd (decide ((P 5 0 0 4) < 2)) <|
  (f_X4_isTold I (P 5 0 0 4)).bind fun y1 =>
  if y1 = 0 then ((f_X5_advance I).bind fun y2 =>
  thb (F_X5_readExpr 8 P y2 (0 : Int32)) fun y3 =>
  some (Sum.inl y3)) else ((f_X5_refuse I (5 : Int32)).bind fun y4 =>
  some (Sum.inl y4))
theorem b_X5_readLaw (X : CX) (Q : State → Prop) {I : Mem} {P : PMem} {O : Nat → Int64} {D : Bool} {n : Nat} {r : (Mem)}  (h : f_X5_readLaw P I = some (Sum.inl r)) (E : EndR X cX5_readLaw RX5 1 (none) 161 n none r P O D Q) : Here X cX5_readLaw RX5 1 (none) 161 n 0 [some (.inr (.inr (5, 0, 0)))] [] I P O D n Q := by
  unfold f_X5_readLaw at h
  refine h_aload_n dX5_readLaw_0 rfl ?_
  refine g_X5_19  dX5_readLaw_1 ?_
  obtain ⟨g1, h⟩ := gd_some h
  have w1 := of_decide_eq_true g1
  refine g_X5_160 (by omega) dX5_readLaw_4 ?_
  obtain ⟨y1, hh1, h⟩ := obd_some h
  refine h_cVi [] (m_X4_isTold (by omega) hh1) cw_X5_163 dX5_readLaw_7 rfl (ok_4 (by omega)) (by decide) rfl (Or.inr rfl) rfl ?_
  refine h_if_eq (tgt := 19) dX5_readLaw_10 (by decide) (fun q1 => ?_) (fun q1 => ?_)
  · rw [if_pos q1] at h
    refine h_aload_n dX5_readLaw_19 rfl ?_
    obtain ⟨y2, hh2, h⟩ := obd_some h
    refine h_cVv [] (m_X5_advance  hh2) cw_X5_43 dX5_readLaw_20 rfl ok_5 (by decide) rfl (Or.inr rfl) rfl ?_
    refine h_aload_n dX5_readLaw_23 rfl ?_
    refine h_iconst (0 : Int32) dX5_readLaw_24 k_iconst_0 ?_
    obtain ⟨y3, hh3, h⟩ := thb_R h
    refine h_cVv [.inl (0 : Int32)] (mF_X5_readExpr 8  hh3) cw_X5_169 dX5_readLaw_25 rfl ok_5 (by decide) rfl (Or.inr rfl) rfl ?_
    cases h
    exact h_vret dX5_readLaw_28 rfl E
  · rw [if_neg q1] at h
    refine h_aload_n dX5_readLaw_13 rfl ?_
    refine h_iconst (5 : Int32) dX5_readLaw_14 k_iconst_5 ?_
    obtain ⟨y4, hh4, h⟩ := obd_some h
    refine h_cVv [.inl (5 : Int32)] (m_X5_refuse  hh4) cw_X5_94 dX5_readLaw_15 rfl ok_5 (by decide) rfl (Or.inr rfl) rfl ?_
    cases h
    exact h_vret dX5_readLaw_18 rfl E
theorem bx_X5_readLaw (X : CX) (Q : State → Prop) {I : Mem} {P : PMem} {O : Nat → Int64} {D : Bool} {n : Nat} {r : Nat}  (h : f_X5_readLaw P I = some (Sum.inr r)) (E : EndX X cX5_readLaw RX5 1 (none) 161 (n + 1) r I P O D Q) : Here X cX5_readLaw RX5 1 (none) 161 (n + 1) 0 [some (.inr (.inr (5, 0, 0)))] [] I P O D n Q := by
  unfold f_X5_readLaw at h
  refine h_aload_n dX5_readLaw_0 rfl ?_
  refine g_X5_19  dX5_readLaw_1 ?_
  obtain ⟨g1, h⟩ := gd_some h
  have w1 := of_decide_eq_true g1
  refine g_X5_160 (by omega) dX5_readLaw_4 ?_
  obtain ⟨y1, hh1, h⟩ := obd_some h
  refine h_cVi [] (m_X4_isTold (by omega) hh1) cw_X5_163 dX5_readLaw_7 rfl (ok_4 (by omega)) (by decide) rfl (Or.inr rfl) rfl ?_
  refine h_if_eq (tgt := 19) dX5_readLaw_10 (by decide) (fun q1 => ?_) (fun q1 => ?_)
  · rw [if_pos q1] at h
    refine h_aload_n dX5_readLaw_19 rfl ?_
    obtain ⟨y2, hh2, h⟩ := obd_some h
    refine h_cVv [] (m_X5_advance  hh2) cw_X5_43 dX5_readLaw_20 rfl ok_5 (by decide) rfl (Or.inr rfl) rfl ?_
    refine h_aload_n dX5_readLaw_23 rfl ?_
    refine h_iconst (0 : Int32) dX5_readLaw_24 k_iconst_0 ?_
    rcases thb_X h with hh3 | ⟨y3, hh3, h⟩
    · exact h_callVX (as := [.inl (0 : Int32)]) (mx_X5_readExpr  hh3) cw_X5_169 dX5_readLaw_25 rfl ok_5 (by decide) rfl rfl E
    refine h_cVv [.inl (0 : Int32)] (mF_X5_readExpr 8  hh3) cw_X5_169 dX5_readLaw_25 rfl ok_5 (by decide) rfl (Or.inr rfl) rfl ?_
    cases h
  · rw [if_neg q1] at h
    refine h_aload_n dX5_readLaw_13 rfl ?_
    refine h_iconst (5 : Int32) dX5_readLaw_14 k_iconst_5 ?_
    obtain ⟨y4, hh4, h⟩ := obd_some h
    refine h_cVv [.inl (5 : Int32)] (m_X5_refuse  hh4) cw_X5_94 dX5_readLaw_15 rfl ok_5 (by decide) rfl (Or.inr rfl) rfl ?_
    cases h
theorem m_X5_readLaw {I : Mem} {P : PMem} {O : Nat → Int64} {D : Bool} {n : Nat}  {r : (Mem)}  (h : f_X5_readLaw P I = some (Sum.inl r)) : MethR yX5_readLaw cX5_readLaw 1 (none) 161 [.inr (.inr (5, 0, 0))] I P O D n none r P O D n := meth_R (Nat.le_refl _) (by decide) rfl (Nat.le_of_ble_eq_true rfl) rfl (fun X Q E => b_X5_readLaw X Q  h E)
theorem mx_X5_readLaw {I : Mem} {P : PMem} {O : Nat → Int64} {D : Bool} {n : Nat}  {r : Nat}  (h : f_X5_readLaw P I = some (Sum.inr r)) : MethX yX5_readLaw cX5_readLaw 1 (none) 161 [.inr (.inr (5, 0, 0))] I P O D n r I P O D (n + 1) := meth_X (Nat.le_succ _) (by decide) rfl (Nat.le_of_ble_eq_true rfl) rfl (fun X Q E => bx_X5_readLaw X Q  h E)
def f_X5_readLine_136  (P : PMem) (I : Mem) : Option ((Mem) ⊕ Nat) :=
  (f_X5_takeSign I (59 : Int32)).bind fun y1 =>
  some (Sum.inl y1)
theorem b_X5_readLine_136 (X : CX) (Q : State → Prop) {I : Mem} {P : PMem} {O : Nat → Int64} {D : Bool} {n : Nat} {r : (Mem)}  (h : f_X5_readLine_136 P I = some (Sum.inl r)) (E : EndR X cX5_readLine RX5 1 (none) 162 n none r P O D Q) : Here X cX5_readLine RX5 1 (none) 162 n 136 [some (.inr (.inr (5, 0, 0)))] [] I P O D n Q := by
  unfold f_X5_readLine_136 at h
  refine h_aload_n dX5_readLine_136 rfl ?_
  refine h_bipush (59 : Int32) dX5_readLine_137 k_bipush_59 ?_
  obtain ⟨y1, hh1, h⟩ := obd_some h
  refine h_cVv [.inl (59 : Int32)] (m_X5_takeSign  hh1) cw_X5_97 dX5_readLine_139 rfl ok_5 (by decide) rfl (Or.inr rfl) rfl ?_
  cases h
  exact h_vret dX5_readLine_142 rfl E
theorem bx_X5_readLine_136 (X : CX) (Q : State → Prop) {I : Mem} {P : PMem} {O : Nat → Int64} {D : Bool} {n : Nat} {r : Nat}  (h : f_X5_readLine_136 P I = some (Sum.inr r)) (E : EndX X cX5_readLine RX5 1 (none) 162 (n + 1) r I P O D Q) : Here X cX5_readLine RX5 1 (none) 162 (n + 1) 136 [some (.inr (.inr (5, 0, 0)))] [] I P O D n Q := by
  unfold f_X5_readLine_136 at h
  refine h_aload_n dX5_readLine_136 rfl ?_
  refine h_bipush (59 : Int32) dX5_readLine_137 k_bipush_59 ?_
  obtain ⟨y1, hh1, h⟩ := obd_some h
  refine h_cVv [.inl (59 : Int32)] (m_X5_takeSign  hh1) cw_X5_97 dX5_readLine_139 rfl ok_5 (by decide) rfl (Or.inr rfl) rfl ?_
  cases h
def f_X5_readLine  (P : PMem) (I : Mem) : Option ((Mem) ⊕ Nat) :=
  thb (f_X5_isWord I 6) fun y1 =>
  if y1 = 0 then (thb (f_X5_isWord I 23) fun y2 =>
  if y2 = 0 then (thb (f_X5_isWord I 11) fun y3 =>
  if y3 = 0 then (thb (f_X5_isWord I 0) fun y4 =>
  if y4 = 0 then (thb (f_X5_isWord I 1) fun y5 =>
  if y5 = 0 then (thb (f_X5_isWord I 2) fun y6 =>
  if y6 = 0 then (thb (f_X5_isWord I 10) fun y7 =>
  if y7 = 0 then (thb (f_X5_isWord I 13) fun y8 =>
  if y8 = 0 then ((f_X5_refuse I (1 : Int32)).bind fun y9 =>
  f_X5_readLine_136 P y9) else (thb (f_X5_readLaw P I) fun y10 =>
  f_X5_readLine_136 P y10)) else ((f_X5_readCase P I).bind fun y11 =>
  f_X5_readLine_136 P y11)) else ((f_X5_readJudge P I (2 : Int32)).bind fun y12 =>
  f_X5_readLine_136 P y12)) else ((f_X5_readJudge P I (1 : Int32)).bind fun y13 =>
  f_X5_readLine_136 P y13)) else ((f_X5_readJudge P I (0 : Int32)).bind fun y14 =>
  f_X5_readLine_136 P y14)) else ((f_X5_readGossip P I).bind fun y15 =>
  f_X5_readLine_136 P y15)) else ((f_X5_readRoad P I).bind fun y16 =>
  f_X5_readLine_136 P y16)) else (thb (f_X5_readTown P I) fun y17 =>
  f_X5_readLine_136 P y17)
theorem b_X5_readLine (X : CX) (Q : State → Prop) {I : Mem} {P : PMem} {O : Nat → Int64} {D : Bool} {n : Nat} {r : (Mem)}  (h : f_X5_readLine P I = some (Sum.inl r)) (E : EndR X cX5_readLine RX5 1 (none) 162 n none r P O D Q) : Here X cX5_readLine RX5 1 (none) 162 n 0 [some (.inr (.inr (5, 0, 0)))] [] I P O D n Q := by
  unfold f_X5_readLine at h
  refine h_aload_n dX5_readLine_0 rfl ?_
  refine h_ldcs (text := "town") (j := 6) dX5_readLine_1 (by decide) ?_
  obtain ⟨y1, hh1, h⟩ := thb_R h
  refine h_cVi [.inr (.inr (90, 6, 0))] (m_X5_isWord (by decide) hh1) cw_X5_57 dX5_readLine_3 rfl ok_5 (by decide) rfl (Or.inr rfl) rfl ?_
  refine h_if_eq (tgt := 16) dX5_readLine_6 (by decide) (fun q1 => ?_) (fun q1 => ?_)
  · rw [if_pos q1] at h
    refine h_aload_n dX5_readLine_16 rfl ?_
    refine h_ldcs (text := "road") (j := 23) dX5_readLine_17 (by decide) ?_
    obtain ⟨y2, hh2, h⟩ := thb_R h
    refine h_cVi [.inr (.inr (90, 23, 0))] (m_X5_isWord (by decide) hh2) cw_X5_57 dX5_readLine_19 rfl ok_5 (by decide) rfl (Or.inr rfl) rfl ?_
    refine h_if_eq (tgt := 32) dX5_readLine_22 (by decide) (fun q2 => ?_) (fun q2 => ?_)
    · rw [if_pos q2] at h
      refine h_aload_n dX5_readLine_32 rfl ?_
      refine h_ldcs (text := "gossip") (j := 11) dX5_readLine_33 (by decide) ?_
      obtain ⟨y3, hh3, h⟩ := thb_R h
      refine h_cVi [.inr (.inr (90, 11, 0))] (m_X5_isWord (by decide) hh3) cw_X5_57 dX5_readLine_35 rfl ok_5 (by decide) rfl (Or.inr rfl) rfl ?_
      refine h_if_eq (tgt := 48) dX5_readLine_38 (by decide) (fun q3 => ?_) (fun q3 => ?_)
      · rw [if_pos q3] at h
        refine h_aload_n dX5_readLine_48 rfl ?_
        refine h_ldcs (text := "judge") (j := 0) dX5_readLine_49 (by decide) ?_
        obtain ⟨y4, hh4, h⟩ := thb_R h
        refine h_cVi [.inr (.inr (90, 0, 0))] (m_X5_isWord (by decide) hh4) cw_X5_57 dX5_readLine_51 rfl ok_5 (by decide) rfl (Or.inr rfl) rfl ?_
        refine h_if_eq (tgt := 65) dX5_readLine_54 (by decide) (fun q4 => ?_) (fun q4 => ?_)
        · rw [if_pos q4] at h
          refine h_aload_n dX5_readLine_65 rfl ?_
          refine h_ldcs (text := "deaf") (j := 1) dX5_readLine_66 (by decide) ?_
          obtain ⟨y5, hh5, h⟩ := thb_R h
          refine h_cVi [.inr (.inr (90, 1, 0))] (m_X5_isWord (by decide) hh5) cw_X5_57 dX5_readLine_68 rfl ok_5 (by decide) rfl (Or.inr rfl) rfl ?_
          refine h_if_eq (tgt := 82) dX5_readLine_71 (by decide) (fun q5 => ?_) (fun q5 => ?_)
          · rw [if_pos q5] at h
            refine h_aload_n dX5_readLine_82 rfl ?_
            refine h_ldcs (text := "wise") (j := 2) dX5_readLine_83 (by decide) ?_
            obtain ⟨y6, hh6, h⟩ := thb_R h
            refine h_cVi [.inr (.inr (90, 2, 0))] (m_X5_isWord (by decide) hh6) cw_X5_57 dX5_readLine_85 rfl ok_5 (by decide) rfl (Or.inr rfl) rfl ?_
            refine h_if_eq (tgt := 99) dX5_readLine_88 (by decide) (fun q6 => ?_) (fun q6 => ?_)
            · rw [if_pos q6] at h
              refine h_aload_n dX5_readLine_99 rfl ?_
              refine h_ldcs (text := "case") (j := 10) dX5_readLine_100 (by decide) ?_
              obtain ⟨y7, hh7, h⟩ := thb_R h
              refine h_cVi [.inr (.inr (90, 10, 0))] (m_X5_isWord (by decide) hh7) cw_X5_57 dX5_readLine_102 rfl ok_5 (by decide) rfl (Or.inr rfl) rfl ?_
              refine h_if_eq (tgt := 115) dX5_readLine_105 (by decide) (fun q7 => ?_) (fun q7 => ?_)
              · rw [if_pos q7] at h
                refine h_aload_n dX5_readLine_115 rfl ?_
                refine h_ldcs (text := "law") (j := 13) dX5_readLine_116 (by decide) ?_
                obtain ⟨y8, hh8, h⟩ := thb_R h
                refine h_cVi [.inr (.inr (90, 13, 0))] (m_X5_isWord (by decide) hh8) cw_X5_57 dX5_readLine_118 rfl ok_5 (by decide) rfl (Or.inr rfl) rfl ?_
                refine h_if_eq (tgt := 131) dX5_readLine_121 (by decide) (fun q8 => ?_) (fun q8 => ?_)
                · rw [if_pos q8] at h
                  refine h_aload_n dX5_readLine_131 rfl ?_
                  refine h_iconst (1 : Int32) dX5_readLine_132 k_iconst_1 ?_
                  obtain ⟨y9, hh9, h⟩ := obd_some h
                  refine h_cVv [.inl (1 : Int32)] (m_X5_refuse  hh9) cw_X5_94 dX5_readLine_133 rfl ok_5 (by decide) rfl (Or.inr rfl) rfl ?_
                  exact (b_X5_readLine_136 X Q  h E)
                · rw [if_neg q8] at h
                  refine h_aload_n dX5_readLine_124 rfl ?_
                  obtain ⟨y10, hh10, h⟩ := thb_R h
                  refine h_cVv [] (m_X5_readLaw  hh10) cw_X5_91 dX5_readLine_125 rfl ok_5 (by decide) rfl (Or.inr rfl) rfl ?_
                  refine h_goto (tgt := 136) dX5_readLine_128 (by decide) ?_
                  exact (b_X5_readLine_136 X Q  h E)
              · rw [if_neg q7] at h
                refine h_aload_n dX5_readLine_108 rfl ?_
                obtain ⟨y11, hh11, h⟩ := obd_some h
                refine h_cVv [] (m_X5_readCase  hh11) cw_X5_86 dX5_readLine_109 rfl ok_5 (by decide) rfl (Or.inr rfl) rfl ?_
                refine h_goto (tgt := 136) dX5_readLine_112 (by decide) ?_
                exact (b_X5_readLine_136 X Q  h E)
            · rw [if_neg q6] at h
              refine h_aload_n dX5_readLine_91 rfl ?_
              refine h_iconst (2 : Int32) dX5_readLine_92 k_iconst_2 ?_
              obtain ⟨y12, hh12, h⟩ := obd_some h
              refine h_cVv [.inl (2 : Int32)] (m_X5_readJudge  hh12) cw_X5_76 dX5_readLine_93 rfl ok_5 (by decide) rfl (Or.inr rfl) rfl ?_
              refine h_goto (tgt := 136) dX5_readLine_96 (by decide) ?_
              exact (b_X5_readLine_136 X Q  h E)
          · rw [if_neg q5] at h
            refine h_aload_n dX5_readLine_74 rfl ?_
            refine h_iconst (1 : Int32) dX5_readLine_75 k_iconst_1 ?_
            obtain ⟨y13, hh13, h⟩ := obd_some h
            refine h_cVv [.inl (1 : Int32)] (m_X5_readJudge  hh13) cw_X5_76 dX5_readLine_76 rfl ok_5 (by decide) rfl (Or.inr rfl) rfl ?_
            refine h_goto (tgt := 136) dX5_readLine_79 (by decide) ?_
            exact (b_X5_readLine_136 X Q  h E)
        · rw [if_neg q4] at h
          refine h_aload_n dX5_readLine_57 rfl ?_
          refine h_iconst (0 : Int32) dX5_readLine_58 k_iconst_0 ?_
          obtain ⟨y14, hh14, h⟩ := obd_some h
          refine h_cVv [.inl (0 : Int32)] (m_X5_readJudge  hh14) cw_X5_76 dX5_readLine_59 rfl ok_5 (by decide) rfl (Or.inr rfl) rfl ?_
          refine h_goto (tgt := 136) dX5_readLine_62 (by decide) ?_
          exact (b_X5_readLine_136 X Q  h E)
      · rw [if_neg q3] at h
        refine h_aload_n dX5_readLine_41 rfl ?_
        obtain ⟨y15, hh15, h⟩ := obd_some h
        refine h_cVv [] (m_X5_readGossip  hh15) cw_X5_71 dX5_readLine_42 rfl ok_5 (by decide) rfl (Or.inr rfl) rfl ?_
        refine h_goto (tgt := 136) dX5_readLine_45 (by decide) ?_
        exact (b_X5_readLine_136 X Q  h E)
    · rw [if_neg q2] at h
      refine h_aload_n dX5_readLine_25 rfl ?_
      obtain ⟨y16, hh16, h⟩ := obd_some h
      refine h_cVv [] (m_X5_readRoad  hh16) cw_X5_66 dX5_readLine_26 rfl ok_5 (by decide) rfl (Or.inr rfl) rfl ?_
      refine h_goto (tgt := 136) dX5_readLine_29 (by decide) ?_
      exact (b_X5_readLine_136 X Q  h E)
  · rw [if_neg q1] at h
    refine h_aload_n dX5_readLine_9 rfl ?_
    obtain ⟨y17, hh17, h⟩ := thb_R h
    refine h_cVv [] (m_X5_readTown  hh17) cw_X5_61 dX5_readLine_10 rfl ok_5 (by decide) rfl (Or.inr rfl) rfl ?_
    refine h_goto (tgt := 136) dX5_readLine_13 (by decide) ?_
    exact (b_X5_readLine_136 X Q  h E)
theorem bx_X5_readLine (X : CX) (Q : State → Prop) {I : Mem} {P : PMem} {O : Nat → Int64} {D : Bool} {n : Nat} {r : Nat}  (h : f_X5_readLine P I = some (Sum.inr r)) (E : EndX X cX5_readLine RX5 1 (none) 162 (n + 1) r I P O D Q) : Here X cX5_readLine RX5 1 (none) 162 (n + 1) 0 [some (.inr (.inr (5, 0, 0)))] [] I P O D n Q := by
  unfold f_X5_readLine at h
  refine h_aload_n dX5_readLine_0 rfl ?_
  refine h_ldcs (text := "town") (j := 6) dX5_readLine_1 (by decide) ?_
  rcases thb_X h with hh1 | ⟨y1, hh1, h⟩
  · exact h_callVX (as := [.inr (.inr (90, 6, 0))]) (mx_X5_isWord (by decide) hh1) cw_X5_57 dX5_readLine_3 rfl ok_5 (by decide) rfl rfl E
  refine h_cVi [.inr (.inr (90, 6, 0))] (m_X5_isWord (by decide) hh1) cw_X5_57 dX5_readLine_3 rfl ok_5 (by decide) rfl (Or.inr rfl) rfl ?_
  refine h_if_eq (tgt := 16) dX5_readLine_6 (by decide) (fun q1 => ?_) (fun q1 => ?_)
  · rw [if_pos q1] at h
    refine h_aload_n dX5_readLine_16 rfl ?_
    refine h_ldcs (text := "road") (j := 23) dX5_readLine_17 (by decide) ?_
    rcases thb_X h with hh2 | ⟨y2, hh2, h⟩
    · exact h_callVX (as := [.inr (.inr (90, 23, 0))]) (mx_X5_isWord (by decide) hh2) cw_X5_57 dX5_readLine_19 rfl ok_5 (by decide) rfl rfl E
    refine h_cVi [.inr (.inr (90, 23, 0))] (m_X5_isWord (by decide) hh2) cw_X5_57 dX5_readLine_19 rfl ok_5 (by decide) rfl (Or.inr rfl) rfl ?_
    refine h_if_eq (tgt := 32) dX5_readLine_22 (by decide) (fun q2 => ?_) (fun q2 => ?_)
    · rw [if_pos q2] at h
      refine h_aload_n dX5_readLine_32 rfl ?_
      refine h_ldcs (text := "gossip") (j := 11) dX5_readLine_33 (by decide) ?_
      rcases thb_X h with hh3 | ⟨y3, hh3, h⟩
      · exact h_callVX (as := [.inr (.inr (90, 11, 0))]) (mx_X5_isWord (by decide) hh3) cw_X5_57 dX5_readLine_35 rfl ok_5 (by decide) rfl rfl E
      refine h_cVi [.inr (.inr (90, 11, 0))] (m_X5_isWord (by decide) hh3) cw_X5_57 dX5_readLine_35 rfl ok_5 (by decide) rfl (Or.inr rfl) rfl ?_
      refine h_if_eq (tgt := 48) dX5_readLine_38 (by decide) (fun q3 => ?_) (fun q3 => ?_)
      · rw [if_pos q3] at h
        refine h_aload_n dX5_readLine_48 rfl ?_
        refine h_ldcs (text := "judge") (j := 0) dX5_readLine_49 (by decide) ?_
        rcases thb_X h with hh4 | ⟨y4, hh4, h⟩
        · exact h_callVX (as := [.inr (.inr (90, 0, 0))]) (mx_X5_isWord (by decide) hh4) cw_X5_57 dX5_readLine_51 rfl ok_5 (by decide) rfl rfl E
        refine h_cVi [.inr (.inr (90, 0, 0))] (m_X5_isWord (by decide) hh4) cw_X5_57 dX5_readLine_51 rfl ok_5 (by decide) rfl (Or.inr rfl) rfl ?_
        refine h_if_eq (tgt := 65) dX5_readLine_54 (by decide) (fun q4 => ?_) (fun q4 => ?_)
        · rw [if_pos q4] at h
          refine h_aload_n dX5_readLine_65 rfl ?_
          refine h_ldcs (text := "deaf") (j := 1) dX5_readLine_66 (by decide) ?_
          rcases thb_X h with hh5 | ⟨y5, hh5, h⟩
          · exact h_callVX (as := [.inr (.inr (90, 1, 0))]) (mx_X5_isWord (by decide) hh5) cw_X5_57 dX5_readLine_68 rfl ok_5 (by decide) rfl rfl E
          refine h_cVi [.inr (.inr (90, 1, 0))] (m_X5_isWord (by decide) hh5) cw_X5_57 dX5_readLine_68 rfl ok_5 (by decide) rfl (Or.inr rfl) rfl ?_
          refine h_if_eq (tgt := 82) dX5_readLine_71 (by decide) (fun q5 => ?_) (fun q5 => ?_)
          · rw [if_pos q5] at h
            refine h_aload_n dX5_readLine_82 rfl ?_
            refine h_ldcs (text := "wise") (j := 2) dX5_readLine_83 (by decide) ?_
            rcases thb_X h with hh6 | ⟨y6, hh6, h⟩
            · exact h_callVX (as := [.inr (.inr (90, 2, 0))]) (mx_X5_isWord (by decide) hh6) cw_X5_57 dX5_readLine_85 rfl ok_5 (by decide) rfl rfl E
            refine h_cVi [.inr (.inr (90, 2, 0))] (m_X5_isWord (by decide) hh6) cw_X5_57 dX5_readLine_85 rfl ok_5 (by decide) rfl (Or.inr rfl) rfl ?_
            refine h_if_eq (tgt := 99) dX5_readLine_88 (by decide) (fun q6 => ?_) (fun q6 => ?_)
            · rw [if_pos q6] at h
              refine h_aload_n dX5_readLine_99 rfl ?_
              refine h_ldcs (text := "case") (j := 10) dX5_readLine_100 (by decide) ?_
              rcases thb_X h with hh7 | ⟨y7, hh7, h⟩
              · exact h_callVX (as := [.inr (.inr (90, 10, 0))]) (mx_X5_isWord (by decide) hh7) cw_X5_57 dX5_readLine_102 rfl ok_5 (by decide) rfl rfl E
              refine h_cVi [.inr (.inr (90, 10, 0))] (m_X5_isWord (by decide) hh7) cw_X5_57 dX5_readLine_102 rfl ok_5 (by decide) rfl (Or.inr rfl) rfl ?_
              refine h_if_eq (tgt := 115) dX5_readLine_105 (by decide) (fun q7 => ?_) (fun q7 => ?_)
              · rw [if_pos q7] at h
                refine h_aload_n dX5_readLine_115 rfl ?_
                refine h_ldcs (text := "law") (j := 13) dX5_readLine_116 (by decide) ?_
                rcases thb_X h with hh8 | ⟨y8, hh8, h⟩
                · exact h_callVX (as := [.inr (.inr (90, 13, 0))]) (mx_X5_isWord (by decide) hh8) cw_X5_57 dX5_readLine_118 rfl ok_5 (by decide) rfl rfl E
                refine h_cVi [.inr (.inr (90, 13, 0))] (m_X5_isWord (by decide) hh8) cw_X5_57 dX5_readLine_118 rfl ok_5 (by decide) rfl (Or.inr rfl) rfl ?_
                refine h_if_eq (tgt := 131) dX5_readLine_121 (by decide) (fun q8 => ?_) (fun q8 => ?_)
                · rw [if_pos q8] at h
                  refine h_aload_n dX5_readLine_131 rfl ?_
                  refine h_iconst (1 : Int32) dX5_readLine_132 k_iconst_1 ?_
                  obtain ⟨y9, hh9, h⟩ := obd_some h
                  refine h_cVv [.inl (1 : Int32)] (m_X5_refuse  hh9) cw_X5_94 dX5_readLine_133 rfl ok_5 (by decide) rfl (Or.inr rfl) rfl ?_
                  exact (bx_X5_readLine_136 X Q  h E)
                · rw [if_neg q8] at h
                  refine h_aload_n dX5_readLine_124 rfl ?_
                  rcases thb_X h with hh10 | ⟨y10, hh10, h⟩
                  · exact h_callVX (as := []) (mx_X5_readLaw  hh10) cw_X5_91 dX5_readLine_125 rfl ok_5 (by decide) rfl rfl E
                  refine h_cVv [] (m_X5_readLaw  hh10) cw_X5_91 dX5_readLine_125 rfl ok_5 (by decide) rfl (Or.inr rfl) rfl ?_
                  refine h_goto (tgt := 136) dX5_readLine_128 (by decide) ?_
                  exact (bx_X5_readLine_136 X Q  h E)
              · rw [if_neg q7] at h
                refine h_aload_n dX5_readLine_108 rfl ?_
                obtain ⟨y11, hh11, h⟩ := obd_some h
                refine h_cVv [] (m_X5_readCase  hh11) cw_X5_86 dX5_readLine_109 rfl ok_5 (by decide) rfl (Or.inr rfl) rfl ?_
                refine h_goto (tgt := 136) dX5_readLine_112 (by decide) ?_
                exact (bx_X5_readLine_136 X Q  h E)
            · rw [if_neg q6] at h
              refine h_aload_n dX5_readLine_91 rfl ?_
              refine h_iconst (2 : Int32) dX5_readLine_92 k_iconst_2 ?_
              obtain ⟨y12, hh12, h⟩ := obd_some h
              refine h_cVv [.inl (2 : Int32)] (m_X5_readJudge  hh12) cw_X5_76 dX5_readLine_93 rfl ok_5 (by decide) rfl (Or.inr rfl) rfl ?_
              refine h_goto (tgt := 136) dX5_readLine_96 (by decide) ?_
              exact (bx_X5_readLine_136 X Q  h E)
          · rw [if_neg q5] at h
            refine h_aload_n dX5_readLine_74 rfl ?_
            refine h_iconst (1 : Int32) dX5_readLine_75 k_iconst_1 ?_
            obtain ⟨y13, hh13, h⟩ := obd_some h
            refine h_cVv [.inl (1 : Int32)] (m_X5_readJudge  hh13) cw_X5_76 dX5_readLine_76 rfl ok_5 (by decide) rfl (Or.inr rfl) rfl ?_
            refine h_goto (tgt := 136) dX5_readLine_79 (by decide) ?_
            exact (bx_X5_readLine_136 X Q  h E)
        · rw [if_neg q4] at h
          refine h_aload_n dX5_readLine_57 rfl ?_
          refine h_iconst (0 : Int32) dX5_readLine_58 k_iconst_0 ?_
          obtain ⟨y14, hh14, h⟩ := obd_some h
          refine h_cVv [.inl (0 : Int32)] (m_X5_readJudge  hh14) cw_X5_76 dX5_readLine_59 rfl ok_5 (by decide) rfl (Or.inr rfl) rfl ?_
          refine h_goto (tgt := 136) dX5_readLine_62 (by decide) ?_
          exact (bx_X5_readLine_136 X Q  h E)
      · rw [if_neg q3] at h
        refine h_aload_n dX5_readLine_41 rfl ?_
        obtain ⟨y15, hh15, h⟩ := obd_some h
        refine h_cVv [] (m_X5_readGossip  hh15) cw_X5_71 dX5_readLine_42 rfl ok_5 (by decide) rfl (Or.inr rfl) rfl ?_
        refine h_goto (tgt := 136) dX5_readLine_45 (by decide) ?_
        exact (bx_X5_readLine_136 X Q  h E)
    · rw [if_neg q2] at h
      refine h_aload_n dX5_readLine_25 rfl ?_
      obtain ⟨y16, hh16, h⟩ := obd_some h
      refine h_cVv [] (m_X5_readRoad  hh16) cw_X5_66 dX5_readLine_26 rfl ok_5 (by decide) rfl (Or.inr rfl) rfl ?_
      refine h_goto (tgt := 136) dX5_readLine_29 (by decide) ?_
      exact (bx_X5_readLine_136 X Q  h E)
  · rw [if_neg q1] at h
    refine h_aload_n dX5_readLine_9 rfl ?_
    rcases thb_X h with hh17 | ⟨y17, hh17, h⟩
    · exact h_callVX (as := []) (mx_X5_readTown  hh17) cw_X5_61 dX5_readLine_10 rfl ok_5 (by decide) rfl rfl E
    refine h_cVv [] (m_X5_readTown  hh17) cw_X5_61 dX5_readLine_10 rfl ok_5 (by decide) rfl (Or.inr rfl) rfl ?_
    refine h_goto (tgt := 136) dX5_readLine_13 (by decide) ?_
    exact (bx_X5_readLine_136 X Q  h E)
theorem m_X5_readLine {I : Mem} {P : PMem} {O : Nat → Int64} {D : Bool} {n : Nat}  {r : (Mem)}  (h : f_X5_readLine P I = some (Sum.inl r)) : MethR yX5_readLine cX5_readLine 1 (none) 162 [.inr (.inr (5, 0, 0))] I P O D n none r P O D n := meth_R (Nat.le_refl _) (by decide) rfl (Nat.le_of_ble_eq_true rfl) rfl (fun X Q E => b_X5_readLine X Q  h E)
theorem mx_X5_readLine {I : Mem} {P : PMem} {O : Nat → Int64} {D : Bool} {n : Nat}  {r : Nat}  (h : f_X5_readLine P I = some (Sum.inr r)) : MethX yX5_readLine cX5_readLine 1 (none) 162 [.inr (.inr (5, 0, 0))] I P O D n r I P O D (n + 1) := meth_X (Nat.le_succ _) (by decide) rfl (Nat.le_of_ble_eq_true rfl) rfl (fun X Q E => bx_X5_readLine X Q  h E)
