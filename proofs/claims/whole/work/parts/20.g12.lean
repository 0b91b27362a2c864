theorem dX8_readPart_0 : decode cX8_readPart 0 = .ok (.aload_n 0, 1) := by decide +kernel
theorem dX8_readPart_1 : decode cX8_readPart 1 = .ok (.getfield 199, 3) := by decide +kernel
theorem dX8_readPart_4 : decode cX8_readPart 4 = .ok (.ifCond .eq 4, 3) := by decide +kernel
theorem dX8_readPart_7 : decode cX8_readPart 7 = .ok (.return_, 1) := by decide +kernel
theorem dX8_readPart_8 : decode cX8_readPart 8 = .ok (.aload_n 0, 1) := by decide +kernel
theorem dX8_readPart_9 : decode cX8_readPart 9 = .ok (.getfield 173, 3) := by decide +kernel
theorem dX8_readPart_12 : decode cX8_readPart 12 = .ok (.iconst 2, 1) := by decide +kernel
theorem dX8_readPart_13 : decode cX8_readPart 13 = .ok (.if_icmp .ne 16, 3) := by decide +kernel
theorem dX8_readPart_16 : decode cX8_readPart 16 = .ok (.aload_n 0, 1) := by decide +kernel
theorem dX8_readPart_17 : decode cX8_readPart 17 = .ok (.aload_n 0, 1) := by decide +kernel
theorem dX8_readPart_18 : decode cX8_readPart 18 = .ok (.iconst 0, 1) := by decide +kernel
theorem dX8_readPart_19 : decode cX8_readPart 19 = .ok (.sipush 9999, 3) := by decide +kernel
theorem dX8_readPart_22 : decode cX8_readPart 22 = .ok (.invokevirtual 230, 3) := by decide +kernel
theorem dX8_readPart_25 : decode cX8_readPart 25 = .ok (.invokevirtual 233, 3) := by decide +kernel
theorem dX8_readPart_28 : decode cX8_readPart 28 = .ok (.return_, 1) := by decide +kernel
theorem dX8_readPart_29 : decode cX8_readPart 29 = .ok (.aload_n 0, 1) := by decide +kernel
theorem dX8_readPart_30 : decode cX8_readPart 30 = .ok (.getfield 173, 3) := by decide +kernel
theorem dX8_readPart_33 : decode cX8_readPart 33 = .ok (.iconst 1, 1) := by decide +kernel
theorem dX8_readPart_34 : decode cX8_readPart 34 = .ok (.if_icmp .ne 41, 3) := by decide +kernel
theorem dX8_readPart_37 : decode cX8_readPart 37 = .ok (.aload_n 0, 1) := by decide +kernel
theorem dX8_readPart_38 : decode cX8_readPart 38 = .ok (.aload_n 0, 1) := by decide +kernel
theorem dX8_readPart_39 : decode cX8_readPart 39 = .ok (.getfield 31, 3) := by decide +kernel
theorem dX8_readPart_42 : decode cX8_readPart 42 = .ok (.invokevirtual 236, 3) := by decide +kernel
theorem dX8_readPart_45 : decode cX8_readPart 45 = .ok (.istore_n 2, 1) := by decide +kernel
theorem dX8_readPart_46 : decode cX8_readPart 46 = .ok (.iload_n 2, 1) := by decide +kernel
theorem dX8_readPart_47 : decode cX8_readPart 47 = .ok (.iconst (-1), 1) := by decide +kernel
theorem dX8_readPart_48 : decode cX8_readPart 48 = .ok (.if_icmp .ne 8, 3) := by decide +kernel
theorem dX8_readPart_51 : decode cX8_readPart 51 = .ok (.aload_n 0, 1) := by decide +kernel
theorem dX8_readPart_52 : decode cX8_readPart 52 = .ok (.iconst 3, 1) := by decide +kernel
theorem dX8_readPart_53 : decode cX8_readPart 53 = .ok (.invokevirtual 220, 3) := by decide +kernel
theorem dX8_readPart_56 : decode cX8_readPart 56 = .ok (.aload_n 0, 1) := by decide +kernel
theorem dX8_readPart_57 : decode cX8_readPart 57 = .ok (.iconst (-1), 1) := by decide +kernel
theorem dX8_readPart_58 : decode cX8_readPart 58 = .ok (.iload_n 2, 1) := by decide +kernel
theorem dX8_readPart_59 : decode cX8_readPart 59 = .ok (.isub, 1) := by decide +kernel
theorem dX8_readPart_60 : decode cX8_readPart 60 = .ok (.invokevirtual 233, 3) := by decide +kernel
theorem dX8_readPart_63 : decode cX8_readPart 63 = .ok (.aload_n 0, 1) := by decide +kernel
theorem dX8_readPart_64 : decode cX8_readPart 64 = .ok (.getfield 199, 3) := by decide +kernel
theorem dX8_readPart_67 : decode cX8_readPart 67 = .ok (.ifCond .ne 7, 3) := by decide +kernel
theorem dX8_readPart_70 : decode cX8_readPart 70 = .ok (.aload_n 0, 1) := by decide +kernel
theorem dX8_readPart_71 : decode cX8_readPart 71 = .ok (.invokevirtual 224, 3) := by decide +kernel
theorem dX8_readPart_74 : decode cX8_readPart 74 = .ok (.return_, 1) := by decide +kernel
theorem dX8_readPart_75 : decode cX8_readPart 75 = .ok (.aload_n 0, 1) := by decide +kernel
theorem dX8_readPart_76 : decode cX8_readPart 76 = .ok (.bipush 40, 2) := by decide +kernel
theorem dX8_readPart_78 : decode cX8_readPart 78 = .ok (.invokevirtual 240, 3) := by decide +kernel
theorem dX8_readPart_81 : decode cX8_readPart 81 = .ok (.aload_n 0, 1) := by decide +kernel
theorem dX8_readPart_82 : decode cX8_readPart 82 = .ok (.iload_n 1, 1) := by decide +kernel
theorem dX8_readPart_83 : decode cX8_readPart 83 = .ok (.iconst 1, 1) := by decide +kernel
theorem dX8_readPart_84 : decode cX8_readPart 84 = .ok (.iadd, 1) := by decide +kernel
theorem dX8_readPart_85 : decode cX8_readPart 85 = .ok (.invokevirtual 243, 3) := by decide +kernel
theorem dX8_readPart_88 : decode cX8_readPart 88 = .ok (.aload_n 0, 1) := by decide +kernel
theorem dX8_readPart_89 : decode cX8_readPart 89 = .ok (.bipush 41, 2) := by decide +kernel
theorem dX8_readPart_91 : decode cX8_readPart 91 = .ok (.invokevirtual 240, 3) := by decide +kernel
theorem dX8_readPart_94 : decode cX8_readPart 94 = .ok (.return_, 1) := by decide +kernel
theorem dX8_readProduct_0 : decode cX8_readProduct 0 = .ok (.aload_n 0, 1) := by decide +kernel
theorem dX8_readProduct_1 : decode cX8_readProduct 1 = .ok (.iload_n 1, 1) := by decide +kernel
theorem dX8_readProduct_2 : decode cX8_readProduct 2 = .ok (.invokevirtual 246, 3) := by decide +kernel
theorem dX8_readProduct_5 : decode cX8_readProduct 5 = .ok (.aload_n 0, 1) := by decide +kernel
theorem dX8_readProduct_6 : decode cX8_readProduct 6 = .ok (.bipush 42, 2) := by decide +kernel
theorem dX8_readProduct_8 : decode cX8_readProduct 8 = .ok (.invokevirtual 217, 3) := by decide +kernel
theorem dX8_readProduct_11 : decode cX8_readProduct 11 = .ok (.ifCond .ne 12, 3) := by decide +kernel
theorem dX8_readProduct_14 : decode cX8_readProduct 14 = .ok (.aload_n 0, 1) := by decide +kernel
theorem dX8_readProduct_15 : decode cX8_readProduct 15 = .ok (.bipush 47, 2) := by decide +kernel
theorem dX8_readProduct_17 : decode cX8_readProduct 17 = .ok (.invokevirtual 217, 3) := by decide +kernel
theorem dX8_readProduct_20 : decode cX8_readProduct 20 = .ok (.ifCond .eq 37, 3) := by decide +kernel
theorem dX8_readProduct_23 : decode cX8_readProduct 23 = .ok (.aload_n 0, 1) := by decide +kernel
theorem dX8_readProduct_24 : decode cX8_readProduct 24 = .ok (.bipush 42, 2) := by decide +kernel
theorem dX8_readProduct_26 : decode cX8_readProduct 26 = .ok (.invokevirtual 217, 3) := by decide +kernel
theorem dX8_readProduct_29 : decode cX8_readProduct 29 = .ok (.ifCond .eq 8, 3) := by decide +kernel
theorem dX8_readProduct_32 : decode cX8_readProduct 32 = .ok (.bipush (-22), 2) := by decide +kernel
theorem dX8_readProduct_34 : decode cX8_readProduct 34 = .ok (.goto 5, 3) := by decide +kernel
theorem dX8_readProduct_37 : decode cX8_readProduct 37 = .ok (.bipush (-23), 2) := by decide +kernel
theorem dX8_readProduct_39 : decode cX8_readProduct 39 = .ok (.istore_n 2, 1) := by decide +kernel
theorem dX8_readProduct_40 : decode cX8_readProduct 40 = .ok (.aload_n 0, 1) := by decide +kernel
theorem dX8_readProduct_41 : decode cX8_readProduct 41 = .ok (.invokevirtual 224, 3) := by decide +kernel
theorem dX8_readProduct_44 : decode cX8_readProduct 44 = .ok (.aload_n 0, 1) := by decide +kernel
theorem dX8_readProduct_45 : decode cX8_readProduct 45 = .ok (.iload_n 1, 1) := by decide +kernel
theorem dX8_readProduct_46 : decode cX8_readProduct 46 = .ok (.invokevirtual 246, 3) := by decide +kernel
theorem dX8_readProduct_49 : decode cX8_readProduct 49 = .ok (.aload_n 0, 1) := by decide +kernel
theorem dX8_readProduct_50 : decode cX8_readProduct 50 = .ok (.iload_n 2, 1) := by decide +kernel
theorem dX8_readProduct_51 : decode cX8_readProduct 51 = .ok (.invokevirtual 233, 3) := by decide +kernel
theorem dX8_readProduct_54 : decode cX8_readProduct 54 = .ok (.goto (-49), 3) := by decide +kernel
theorem dX8_readProduct_57 : decode cX8_readProduct 57 = .ok (.return_, 1) := by decide +kernel
theorem dX8_readSum_0 : decode cX8_readSum 0 = .ok (.aload_n 0, 1) := by decide +kernel
theorem dX8_readSum_1 : decode cX8_readSum 1 = .ok (.iload_n 1, 1) := by decide +kernel
theorem dX8_readSum_2 : decode cX8_readSum 2 = .ok (.invokevirtual 249, 3) := by decide +kernel
theorem dX8_readSum_5 : decode cX8_readSum 5 = .ok (.aload_n 0, 1) := by decide +kernel
theorem dX8_readSum_6 : decode cX8_readSum 6 = .ok (.bipush 43, 2) := by decide +kernel
theorem dX8_readSum_8 : decode cX8_readSum 8 = .ok (.invokevirtual 217, 3) := by decide +kernel
theorem dX8_readSum_11 : decode cX8_readSum 11 = .ok (.ifCond .ne 12, 3) := by decide +kernel
theorem dX8_readSum_14 : decode cX8_readSum 14 = .ok (.aload_n 0, 1) := by decide +kernel
theorem dX8_readSum_15 : decode cX8_readSum 15 = .ok (.bipush 45, 2) := by decide +kernel
theorem dX8_readSum_17 : decode cX8_readSum 17 = .ok (.invokevirtual 217, 3) := by decide +kernel
theorem dX8_readSum_20 : decode cX8_readSum 20 = .ok (.ifCond .eq 37, 3) := by decide +kernel
theorem dX8_readSum_23 : decode cX8_readSum 23 = .ok (.aload_n 0, 1) := by decide +kernel
theorem dX8_readSum_24 : decode cX8_readSum 24 = .ok (.bipush 43, 2) := by decide +kernel
theorem dX8_readSum_26 : decode cX8_readSum 26 = .ok (.invokevirtual 217, 3) := by decide +kernel
theorem dX8_readSum_29 : decode cX8_readSum 29 = .ok (.ifCond .eq 8, 3) := by decide +kernel
theorem dX8_readSum_32 : decode cX8_readSum 32 = .ok (.bipush (-20), 2) := by decide +kernel
theorem dX8_readSum_34 : decode cX8_readSum 34 = .ok (.goto 5, 3) := by decide +kernel
theorem dX8_readSum_37 : decode cX8_readSum 37 = .ok (.bipush (-21), 2) := by decide +kernel
theorem dX8_readSum_39 : decode cX8_readSum 39 = .ok (.istore_n 2, 1) := by decide +kernel
theorem dX8_readSum_40 : decode cX8_readSum 40 = .ok (.aload_n 0, 1) := by decide +kernel
theorem dX8_readSum_41 : decode cX8_readSum 41 = .ok (.invokevirtual 224, 3) := by decide +kernel
theorem dX8_readSum_44 : decode cX8_readSum 44 = .ok (.aload_n 0, 1) := by decide +kernel
theorem dX8_readSum_45 : decode cX8_readSum 45 = .ok (.iload_n 1, 1) := by decide +kernel
theorem dX8_readSum_46 : decode cX8_readSum 46 = .ok (.invokevirtual 249, 3) := by decide +kernel
theorem dX8_readSum_49 : decode cX8_readSum 49 = .ok (.aload_n 0, 1) := by decide +kernel
theorem dX8_readSum_50 : decode cX8_readSum 50 = .ok (.iload_n 2, 1) := by decide +kernel
theorem dX8_readSum_51 : decode cX8_readSum 51 = .ok (.invokevirtual 233, 3) := by decide +kernel
theorem dX8_readSum_54 : decode cX8_readSum 54 = .ok (.goto (-49), 3) := by decide +kernel
theorem dX8_readSum_57 : decode cX8_readSum 57 = .ok (.return_, 1) := by decide +kernel
theorem dX8_readNot_0 : decode cX8_readNot 0 = .ok (.iconst 0, 1) := by decide +kernel
theorem dX8_readNot_1 : decode cX8_readNot 1 = .ok (.istore_n 2, 1) := by decide +kernel
theorem dX8_readNot_2 : decode cX8_readNot 2 = .ok (.aload_n 0, 1) := by decide +kernel
theorem dX8_readNot_3 : decode cX8_readNot 3 = .ok (.ldc 252, 2) := by decide +kernel
theorem dX8_readNot_5 : decode cX8_readNot 5 = .ok (.invokevirtual 213, 3) := by decide +kernel
theorem dX8_readNot_8 : decode cX8_readNot 8 = .ok (.ifCond .eq 31, 3) := by decide +kernel
theorem dX8_readNot_11 : decode cX8_readNot 11 = .ok (.iload_n 2, 1) := by decide +kernel
theorem dX8_readNot_12 : decode cX8_readNot 12 = .ok (.bipush 6, 2) := by decide +kernel
theorem dX8_readNot_14 : decode cX8_readNot 14 = .ok (.if_icmp .ne 8, 3) := by decide +kernel
theorem dX8_readNot_17 : decode cX8_readNot 17 = .ok (.aload_n 0, 1) := by decide +kernel
theorem dX8_readNot_18 : decode cX8_readNot 18 = .ok (.iconst 2, 1) := by decide +kernel
theorem dX8_readNot_19 : decode cX8_readNot 19 = .ok (.invokevirtual 220, 3) := by decide +kernel
theorem dX8_readNot_22 : decode cX8_readNot 22 = .ok (.iinc 2 1, 3) := by decide +kernel
theorem dX8_readNot_25 : decode cX8_readNot 25 = .ok (.aload_n 0, 1) := by decide +kernel
theorem dX8_readNot_26 : decode cX8_readNot 26 = .ok (.getfield 199, 3) := by decide +kernel
theorem dX8_readNot_29 : decode cX8_readNot 29 = .ok (.ifCond .ne (-27), 3) := by decide +kernel
theorem dX8_readNot_32 : decode cX8_readNot 32 = .ok (.aload_n 0, 1) := by decide +kernel
theorem dX8_readNot_33 : decode cX8_readNot 33 = .ok (.invokevirtual 224, 3) := by decide +kernel
theorem dX8_readNot_36 : decode cX8_readNot 36 = .ok (.goto (-34), 3) := by decide +kernel
theorem dX8_readNot_39 : decode cX8_readNot 39 = .ok (.aload_n 0, 1) := by decide +kernel
theorem dX8_readNot_40 : decode cX8_readNot 40 = .ok (.iload_n 1, 1) := by decide +kernel
theorem dX8_readNot_41 : decode cX8_readNot 41 = .ok (.invokevirtual 254, 3) := by decide +kernel
theorem dX8_readNot_44 : decode cX8_readNot 44 = .ok (.aload_n 0, 1) := by decide +kernel
theorem dX8_readNot_45 : decode cX8_readNot 45 = .ok (.bipush 60, 2) := by decide +kernel
theorem dX8_readNot_47 : decode cX8_readNot 47 = .ok (.invokevirtual 217, 3) := by decide +kernel
theorem dX8_readNot_50 : decode cX8_readNot 50 = .ok (.ifCond .ne 12, 3) := by decide +kernel
theorem dX8_readNot_53 : decode cX8_readNot 53 = .ok (.aload_n 0, 1) := by decide +kernel
theorem dX8_readNot_54 : decode cX8_readNot 54 = .ok (.bipush 61, 2) := by decide +kernel
theorem dX8_readNot_56 : decode cX8_readNot 56 = .ok (.invokevirtual 217, 3) := by decide +kernel
theorem dX8_readNot_59 : decode cX8_readNot 59 = .ok (.ifCond .eq 34, 3) := by decide +kernel
theorem dX8_readNot_62 : decode cX8_readNot 62 = .ok (.aload_n 0, 1) := by decide +kernel
theorem dX8_readNot_63 : decode cX8_readNot 63 = .ok (.bipush 60, 2) := by decide +kernel
theorem dX8_readNot_65 : decode cX8_readNot 65 = .ok (.invokevirtual 217, 3) := by decide +kernel
theorem dX8_readNot_68 : decode cX8_readNot 68 = .ok (.ifCond .eq 8, 3) := by decide +kernel
theorem dX8_readNot_71 : decode cX8_readNot 71 = .ok (.bipush (-24), 2) := by decide +kernel
theorem dX8_readNot_73 : decode cX8_readNot 73 = .ok (.goto 5, 3) := by decide +kernel
theorem dX8_readNot_76 : decode cX8_readNot 76 = .ok (.bipush (-25), 2) := by decide +kernel
theorem dX8_readNot_78 : decode cX8_readNot 78 = .ok (.istore_n 3, 1) := by decide +kernel
theorem dX8_readNot_79 : decode cX8_readNot 79 = .ok (.aload_n 0, 1) := by decide +kernel
theorem dX8_readNot_80 : decode cX8_readNot 80 = .ok (.invokevirtual 224, 3) := by decide +kernel
theorem dX8_readNot_83 : decode cX8_readNot 83 = .ok (.aload_n 0, 1) := by decide +kernel
theorem dX8_readNot_84 : decode cX8_readNot 84 = .ok (.iload_n 1, 1) := by decide +kernel
theorem dX8_readNot_85 : decode cX8_readNot 85 = .ok (.invokevirtual 254, 3) := by decide +kernel
theorem dX8_readNot_88 : decode cX8_readNot 88 = .ok (.aload_n 0, 1) := by decide +kernel
theorem dX8_readNot_89 : decode cX8_readNot 89 = .ok (.iload_n 3, 1) := by decide +kernel
theorem dX8_readNot_90 : decode cX8_readNot 90 = .ok (.invokevirtual 233, 3) := by decide +kernel
theorem dX8_readNot_93 : decode cX8_readNot 93 = .ok (.iconst 0, 1) := by decide +kernel
theorem dX8_readNot_94 : decode cX8_readNot 94 = .ok (.istore_n 3, 1) := by decide +kernel
theorem dX8_readNot_95 : decode cX8_readNot 95 = .ok (.iload_n 3, 1) := by decide +kernel
theorem dX8_readNot_96 : decode cX8_readNot 96 = .ok (.iload_n 2, 1) := by decide +kernel
theorem dX8_readNot_97 : decode cX8_readNot 97 = .ok (.if_icmp .ge 15, 3) := by decide +kernel
theorem dX8_readNot_100 : decode cX8_readNot 100 = .ok (.aload_n 0, 1) := by decide +kernel
theorem dX8_readNot_101 : decode cX8_readNot 101 = .ok (.bipush (-28), 2) := by decide +kernel
theorem dX8_readNot_103 : decode cX8_readNot 103 = .ok (.invokevirtual 233, 3) := by decide +kernel
theorem dX8_readNot_106 : decode cX8_readNot 106 = .ok (.iinc 3 1, 3) := by decide +kernel
theorem dX8_readNot_109 : decode cX8_readNot 109 = .ok (.goto (-14), 3) := by decide +kernel
theorem dX8_readNot_112 : decode cX8_readNot 112 = .ok (.return_, 1) := by decide +kernel
theorem dX8_readAnd_0 : decode cX8_readAnd 0 = .ok (.aload_n 0, 1) := by decide +kernel
theorem dX8_readAnd_1 : decode cX8_readAnd 1 = .ok (.iload_n 1, 1) := by decide +kernel
theorem dX8_readAnd_2 : decode cX8_readAnd 2 = .ok (.invokevirtual 257, 3) := by decide +kernel
theorem dX8_readAnd_5 : decode cX8_readAnd 5 = .ok (.aload_n 0, 1) := by decide +kernel
theorem dX8_readAnd_6 : decode cX8_readAnd 6 = .ok (.ldc_w 260, 3) := by decide +kernel
theorem dX8_readAnd_9 : decode cX8_readAnd 9 = .ok (.invokevirtual 213, 3) := by decide +kernel
theorem dX8_readAnd_12 : decode cX8_readAnd 12 = .ok (.ifCond .eq 21, 3) := by decide +kernel
theorem dX8_readAnd_15 : decode cX8_readAnd 15 = .ok (.aload_n 0, 1) := by decide +kernel
theorem dX8_readAnd_16 : decode cX8_readAnd 16 = .ok (.invokevirtual 224, 3) := by decide +kernel
theorem dX8_readAnd_19 : decode cX8_readAnd 19 = .ok (.aload_n 0, 1) := by decide +kernel
theorem dX8_readAnd_20 : decode cX8_readAnd 20 = .ok (.iload_n 1, 1) := by decide +kernel
theorem dX8_readAnd_21 : decode cX8_readAnd 21 = .ok (.invokevirtual 257, 3) := by decide +kernel
theorem dX8_readAnd_24 : decode cX8_readAnd 24 = .ok (.aload_n 0, 1) := by decide +kernel
theorem dX8_readAnd_25 : decode cX8_readAnd 25 = .ok (.bipush (-26), 2) := by decide +kernel
theorem dX8_readAnd_27 : decode cX8_readAnd 27 = .ok (.invokevirtual 233, 3) := by decide +kernel
theorem dX8_readAnd_30 : decode cX8_readAnd 30 = .ok (.goto (-25), 3) := by decide +kernel
theorem dX8_readAnd_33 : decode cX8_readAnd 33 = .ok (.return_, 1) := by decide +kernel
theorem dX8_readExpression_0 : decode cX8_readExpression 0 = .ok (.aload_n 0, 1) := by decide +kernel
theorem dX8_readExpression_1 : decode cX8_readExpression 1 = .ok (.getfield 199, 3) := by decide +kernel
theorem dX8_readExpression_4 : decode cX8_readExpression 4 = .ok (.ifCond .eq 4, 3) := by decide +kernel
theorem dX8_readExpression_7 : decode cX8_readExpression 7 = .ok (.return_, 1) := by decide +kernel
theorem dX8_readExpression_8 : decode cX8_readExpression 8 = .ok (.aload_n 0, 1) := by decide +kernel
theorem dX8_readExpression_9 : decode cX8_readExpression 9 = .ok (.getfield 173, 3) := by decide +kernel
theorem dX8_readExpression_12 : decode cX8_readExpression 12 = .ok (.iconst 2, 1) := by decide +kernel
theorem dX8_readExpression_13 : decode cX8_readExpression 13 = .ok (.if_icmp .eq 20, 3) := by decide +kernel
theorem dX8_readExpression_16 : decode cX8_readExpression 16 = .ok (.aload_n 0, 1) := by decide +kernel
theorem dX8_readExpression_17 : decode cX8_readExpression 17 = .ok (.getfield 173, 3) := by decide +kernel
theorem dX8_readExpression_20 : decode cX8_readExpression 20 = .ok (.iconst 1, 1) := by decide +kernel
theorem dX8_readExpression_21 : decode cX8_readExpression 21 = .ok (.if_icmp .eq 12, 3) := by decide +kernel
theorem dX8_readExpression_24 : decode cX8_readExpression 24 = .ok (.aload_n 0, 1) := by decide +kernel
theorem dX8_readExpression_25 : decode cX8_readExpression 25 = .ok (.bipush 40, 2) := by decide +kernel
theorem dX8_readExpression_27 : decode cX8_readExpression 27 = .ok (.invokevirtual 217, 3) := by decide +kernel
theorem dX8_readExpression_30 : decode cX8_readExpression 30 = .ok (.ifCond .eq 7, 3) := by decide +kernel
theorem dX8_readExpression_33 : decode cX8_readExpression 33 = .ok (.iconst 1, 1) := by decide +kernel
theorem dX8_readExpression_34 : decode cX8_readExpression 34 = .ok (.goto 4, 3) := by decide +kernel
theorem dX8_readExpression_37 : decode cX8_readExpression 37 = .ok (.iconst 0, 1) := by decide +kernel
theorem dX8_readExpression_38 : decode cX8_readExpression 38 = .ok (.istore_n 2, 1) := by decide +kernel
theorem dX8_readExpression_39 : decode cX8_readExpression 39 = .ok (.iload_n 2, 1) := by decide +kernel
theorem dX8_readExpression_40 : decode cX8_readExpression 40 = .ok (.ifCond .ne 11, 3) := by decide +kernel
theorem dX8_readExpression_43 : decode cX8_readExpression 43 = .ok (.aload_n 0, 1) := by decide +kernel
theorem dX8_readExpression_44 : decode cX8_readExpression 44 = .ok (.iconst 1, 1) := by decide +kernel
theorem dX8_readExpression_45 : decode cX8_readExpression 45 = .ok (.invokevirtual 220, 3) := by decide +kernel
theorem dX8_readExpression_48 : decode cX8_readExpression 48 = .ok (.goto 14, 3) := by decide +kernel
theorem dX8_readExpression_51 : decode cX8_readExpression 51 = .ok (.iload_n 1, 1) := by decide +kernel
theorem dX8_readExpression_52 : decode cX8_readExpression 52 = .ok (.bipush 6, 2) := by decide +kernel
theorem dX8_readExpression_54 : decode cX8_readExpression 54 = .ok (.if_icmp .ne 8, 3) := by decide +kernel
theorem dX8_readExpression_57 : decode cX8_readExpression 57 = .ok (.aload_n 0, 1) := by decide +kernel
theorem dX8_readExpression_58 : decode cX8_readExpression 58 = .ok (.iconst 2, 1) := by decide +kernel
theorem dX8_readExpression_59 : decode cX8_readExpression 59 = .ok (.invokevirtual 220, 3) := by decide +kernel
theorem dX8_readExpression_62 : decode cX8_readExpression 62 = .ok (.aload_n 0, 1) := by decide +kernel
theorem dX8_readExpression_63 : decode cX8_readExpression 63 = .ok (.iload_n 1, 1) := by decide +kernel
theorem dX8_readExpression_64 : decode cX8_readExpression 64 = .ok (.invokevirtual 262, 3) := by decide +kernel
theorem dX8_readExpression_67 : decode cX8_readExpression 67 = .ok (.aload_n 0, 1) := by decide +kernel
theorem dX8_readExpression_68 : decode cX8_readExpression 68 = .ok (.ldc_w 265, 3) := by decide +kernel
theorem dX8_readExpression_71 : decode cX8_readExpression 71 = .ok (.invokevirtual 213, 3) := by decide +kernel
theorem dX8_readExpression_74 : decode cX8_readExpression 74 = .ok (.ifCond .eq 21, 3) := by decide +kernel
theorem dX8_readExpression_77 : decode cX8_readExpression 77 = .ok (.aload_n 0, 1) := by decide +kernel
theorem dX8_readExpression_78 : decode cX8_readExpression 78 = .ok (.invokevirtual 224, 3) := by decide +kernel
theorem dX8_readExpression_81 : decode cX8_readExpression 81 = .ok (.aload_n 0, 1) := by decide +kernel
theorem dX8_readExpression_82 : decode cX8_readExpression 82 = .ok (.iload_n 1, 1) := by decide +kernel
theorem dX8_readExpression_83 : decode cX8_readExpression 83 = .ok (.invokevirtual 262, 3) := by decide +kernel
theorem dX8_readExpression_86 : decode cX8_readExpression 86 = .ok (.aload_n 0, 1) := by decide +kernel
theorem dX8_readExpression_87 : decode cX8_readExpression 87 = .ok (.bipush (-27), 2) := by decide +kernel
theorem dX8_readExpression_89 : decode cX8_readExpression 89 = .ok (.invokevirtual 233, 3) := by decide +kernel
theorem dX8_readExpression_92 : decode cX8_readExpression 92 = .ok (.goto (-25), 3) := by decide +kernel
theorem dX8_readExpression_95 : decode cX8_readExpression 95 = .ok (.return_, 1) := by decide +kernel
theorem dX8_another_0 : decode cX8_another 0 = .ok (.aload_n 0, 1) := by decide +kernel
theorem dX8_another_1 : decode cX8_another 1 = .ok (.getfield 34, 3) := by decide +kernel
theorem dX8_another_4 : decode cX8_another 4 = .ok (.bipush 7, 2) := by decide +kernel
theorem dX8_another_6 : decode cX8_another 6 = .ok (.iload_n 1, 1) := by decide +kernel
theorem dX8_another_7 : decode cX8_another 7 = .ok (.iadd, 1) := by decide +kernel
theorem dX8_another_8 : decode cX8_another 8 = .ok (.iaload, 1) := by decide +kernel
theorem dX8_another_9 : decode cX8_another 9 = .ok (.iload_n 2, 1) := by decide +kernel
theorem dX8_another_10 : decode cX8_another 10 = .ok (.if_icmp .ne 8, 3) := by decide +kernel
theorem dX8_another_13 : decode cX8_another 13 = .ok (.aload_n 0, 1) := by decide +kernel
theorem dX8_another_14 : decode cX8_another 14 = .ok (.iconst 2, 1) := by decide +kernel
theorem dX8_another_15 : decode cX8_another 15 = .ok (.invokevirtual 220, 3) := by decide +kernel
theorem dX8_another_18 : decode cX8_another 18 = .ok (.aload_n 0, 1) := by decide +kernel
theorem dX8_another_19 : decode cX8_another 19 = .ok (.getfield 199, 3) := by decide +kernel
theorem dX8_another_22 : decode cX8_another 22 = .ok (.ifCond .eq 5, 3) := by decide +kernel
theorem dX8_another_25 : decode cX8_another 25 = .ok (.iconst 0, 1) := by decide +kernel
theorem dX8_another_26 : decode cX8_another 26 = .ok (.ireturn, 1) := by decide +kernel
theorem dX8_another_27 : decode cX8_another 27 = .ok (.aload_n 0, 1) := by decide +kernel
theorem dX8_another_28 : decode cX8_another 28 = .ok (.invokevirtual 224, 3) := by decide +kernel
theorem dX8_another_31 : decode cX8_another 31 = .ok (.iconst 1, 1) := by decide +kernel
theorem dX8_another_32 : decode cX8_another 32 = .ok (.ireturn, 1) := by decide +kernel
theorem dX8_readTown_0 : decode cX8_readTown 0 = .ok (.aload_n 0, 1) := by decide +kernel
theorem dX8_readTown_1 : decode cX8_readTown 1 = .ok (.iconst 0, 1) := by decide +kernel
theorem dX8_readTown_2 : decode cX8_readTown 2 = .ok (.bipush 9, 2) := by decide +kernel
theorem dX8_readTown_4 : decode cX8_readTown 4 = .ok (.invokevirtual 267, 3) := by decide +kernel
theorem dX8_readTown_7 : decode cX8_readTown 7 = .ok (.ifCond .ne 4, 3) := by decide +kernel
theorem dX8_readTown_10 : decode cX8_readTown 10 = .ok (.return_, 1) := by decide +kernel
theorem dX8_readTown_11 : decode cX8_readTown 11 = .ok (.aload_n 0, 1) := by decide +kernel
theorem dX8_readTown_12 : decode cX8_readTown 12 = .ok (.ldc_w 271, 3) := by decide +kernel
theorem dX8_readTown_15 : decode cX8_readTown 15 = .ok (.invokevirtual 213, 3) := by decide +kernel
theorem dX8_readTown_18 : decode cX8_readTown 18 = .ok (.ifCond .eq 26, 3) := by decide +kernel
theorem dX8_readTown_21 : decode cX8_readTown 21 = .ok (.aload_n 0, 1) := by decide +kernel
theorem dX8_readTown_22 : decode cX8_readTown 22 = .ok (.getfield 34, 3) := by decide +kernel
theorem dX8_readTown_25 : decode cX8_readTown 25 = .ok (.bipush 8, 2) := by decide +kernel
theorem dX8_readTown_27 : decode cX8_readTown 27 = .ok (.dup2, 1) := by decide +kernel
theorem dX8_readTown_28 : decode cX8_readTown 28 = .ok (.iaload, 1) := by decide +kernel
theorem dX8_readTown_29 : decode cX8_readTown 29 = .ok (.iconst 1, 1) := by decide +kernel
theorem dX8_readTown_30 : decode cX8_readTown 30 = .ok (.aload_n 0, 1) := by decide +kernel
theorem dX8_readTown_31 : decode cX8_readTown 31 = .ok (.getfield 34, 3) := by decide +kernel
theorem dX8_readTown_34 : decode cX8_readTown 34 = .ok (.bipush 7, 2) := by decide +kernel
theorem dX8_readTown_36 : decode cX8_readTown 36 = .ok (.iaload, 1) := by decide +kernel
theorem dX8_readTown_37 : decode cX8_readTown 37 = .ok (.ishl, 1) := by decide +kernel
theorem dX8_readTown_38 : decode cX8_readTown 38 = .ok (.ior, 1) := by decide +kernel
theorem dX8_readTown_39 : decode cX8_readTown 39 = .ok (.iastore, 1) := by decide +kernel
theorem dX8_readTown_40 : decode cX8_readTown 40 = .ok (.aload_n 0, 1) := by decide +kernel
theorem dX8_readTown_41 : decode cX8_readTown 41 = .ok (.invokevirtual 224, 3) := by decide +kernel
theorem dX8_readTown_44 : decode cX8_readTown 44 = .ok (.aload_n 0, 1) := by decide +kernel
theorem dX8_readTown_45 : decode cX8_readTown 45 = .ok (.getfield 34, 3) := by decide +kernel
theorem dX8_readTown_48 : decode cX8_readTown 48 = .ok (.bipush 7, 2) := by decide +kernel
theorem dX8_readTown_50 : decode cX8_readTown 50 = .ok (.dup2, 1) := by decide +kernel
theorem dX8_readTown_51 : decode cX8_readTown 51 = .ok (.iaload, 1) := by decide +kernel
theorem dX8_readTown_52 : decode cX8_readTown 52 = .ok (.iconst 1, 1) := by decide +kernel
theorem dX8_readTown_53 : decode cX8_readTown 53 = .ok (.iadd, 1) := by decide +kernel
theorem dX8_readTown_54 : decode cX8_readTown 54 = .ok (.iastore, 1) := by decide +kernel
theorem dX8_readTown_55 : decode cX8_readTown 55 = .ok (.return_, 1) := by decide +kernel
theorem dX8_couple_0 : decode cX8_couple 0 = .ok (.bipush 9, 2) := by decide +kernel
theorem dX8_couple_2 : decode cX8_couple 2 = .ok (.iload_n 0, 1) := by decide +kernel
theorem dX8_couple_3 : decode cX8_couple 3 = .ok (.imul, 1) := by decide +kernel
theorem dX8_couple_4 : decode cX8_couple 4 = .ok (.iload_n 1, 1) := by decide +kernel
theorem dX8_couple_5 : decode cX8_couple 5 = .ok (.iadd, 1) := by decide +kernel
theorem dX8_couple_6 : decode cX8_couple 6 = .ok (.ireturn, 1) := by decide +kernel
theorem dX8_readRoad_0 : decode cX8_readRoad 0 = .ok (.aload_n 0, 1) := by decide +kernel
theorem dX8_readRoad_1 : decode cX8_readRoad 1 = .ok (.iconst 2, 1) := by decide +kernel
theorem dX8_readRoad_2 : decode cX8_readRoad 2 = .ok (.bipush 14, 2) := by decide +kernel
theorem dX8_readRoad_4 : decode cX8_readRoad 4 = .ok (.invokevirtual 267, 3) := by decide +kernel
theorem dX8_readRoad_7 : decode cX8_readRoad 7 = .ok (.ifCond .ne 4, 3) := by decide +kernel
theorem dX8_readRoad_10 : decode cX8_readRoad 10 = .ok (.return_, 1) := by decide +kernel
theorem dX8_readRoad_11 : decode cX8_readRoad 11 = .ok (.aload_n 0, 1) := by decide +kernel
theorem dX8_readRoad_12 : decode cX8_readRoad 12 = .ok (.invokevirtual 273, 3) := by decide +kernel
theorem dX8_readRoad_15 : decode cX8_readRoad 15 = .ok (.istore_n 1, 1) := by decide +kernel
theorem dX8_readRoad_16 : decode cX8_readRoad 16 = .ok (.aload_n 0, 1) := by decide +kernel
theorem dX8_readRoad_17 : decode cX8_readRoad 17 = .ok (.getfield 199, 3) := by decide +kernel
theorem dX8_readRoad_20 : decode cX8_readRoad 20 = .ok (.ifCond .ne 7, 3) := by decide +kernel
theorem dX8_readRoad_23 : decode cX8_readRoad 23 = .ok (.aload_n 0, 1) := by decide +kernel
theorem dX8_readRoad_24 : decode cX8_readRoad 24 = .ok (.invokevirtual 224, 3) := by decide +kernel
theorem dX8_readRoad_27 : decode cX8_readRoad 27 = .ok (.aload_n 0, 1) := by decide +kernel
theorem dX8_readRoad_28 : decode cX8_readRoad 28 = .ok (.invokevirtual 273, 3) := by decide +kernel
theorem dX8_readRoad_31 : decode cX8_readRoad 31 = .ok (.istore_n 2, 1) := by decide +kernel
theorem dX8_readRoad_32 : decode cX8_readRoad 32 = .ok (.bipush 81, 2) := by decide +kernel
theorem dX8_readRoad_34 : decode cX8_readRoad 34 = .ok (.istore_n 3, 1) := by decide +kernel
theorem dX8_readRoad_35 : decode cX8_readRoad 35 = .ok (.aload_n 0, 1) := by decide +kernel
theorem dX8_readRoad_36 : decode cX8_readRoad 36 = .ok (.getfield 199, 3) := by decide +kernel
theorem dX8_readRoad_39 : decode cX8_readRoad 39 = .ok (.ifCond .ne 28, 3) := by decide +kernel
theorem dX8_readRoad_42 : decode cX8_readRoad 42 = .ok (.iload_n 1, 1) := by decide +kernel
theorem dX8_readRoad_43 : decode cX8_readRoad 43 = .ok (.iload_n 2, 1) := by decide +kernel
theorem dX8_readRoad_44 : decode cX8_readRoad 44 = .ok (.if_icmp .eq 18, 3) := by decide +kernel
theorem dX8_readRoad_47 : decode cX8_readRoad 47 = .ok (.aload_n 0, 1) := by decide +kernel
theorem dX8_readRoad_48 : decode cX8_readRoad 48 = .ok (.getfield 38, 3) := by decide +kernel
theorem dX8_readRoad_51 : decode cX8_readRoad 51 = .ok (.iload_n 3, 1) := by decide +kernel
theorem dX8_readRoad_52 : decode cX8_readRoad 52 = .ok (.iload_n 1, 1) := by decide +kernel
theorem dX8_readRoad_53 : decode cX8_readRoad 53 = .ok (.iload_n 2, 1) := by decide +kernel
theorem dX8_readRoad_54 : decode cX8_readRoad 54 = .ok (.invokestatic 276, 3) := by decide +kernel
theorem dX8_readRoad_57 : decode cX8_readRoad 57 = .ok (.iadd, 1) := by decide +kernel
theorem dX8_readRoad_58 : decode cX8_readRoad 58 = .ok (.iaload, 1) := by decide +kernel
theorem dX8_readRoad_59 : decode cX8_readRoad 59 = .ok (.ifCond .le 8, 3) := by decide +kernel
theorem dX8_readRoad_62 : decode cX8_readRoad 62 = .ok (.aload_n 0, 1) := by decide +kernel
theorem dX8_readRoad_63 : decode cX8_readRoad 63 = .ok (.iconst 4, 1) := by decide +kernel
theorem dX8_readRoad_64 : decode cX8_readRoad 64 = .ok (.invokevirtual 220, 3) := by decide +kernel
theorem dX8_readRoad_67 : decode cX8_readRoad 67 = .ok (.aload_n 0, 1) := by decide +kernel
theorem dX8_readRoad_68 : decode cX8_readRoad 68 = .ok (.getfield 199, 3) := by decide +kernel
theorem dX8_readRoad_71 : decode cX8_readRoad 71 = .ok (.ifCond .ne 7, 3) := by decide +kernel
theorem dX8_readRoad_74 : decode cX8_readRoad 74 = .ok (.aload_n 0, 1) := by decide +kernel
theorem dX8_readRoad_75 : decode cX8_readRoad 75 = .ok (.invokevirtual 224, 3) := by decide +kernel
theorem dX8_readRoad_78 : decode cX8_readRoad 78 = .ok (.aload_n 0, 1) := by decide +kernel
theorem dX8_readRoad_79 : decode cX8_readRoad 79 = .ok (.iconst 1, 1) := by decide +kernel
theorem dX8_readRoad_80 : decode cX8_readRoad 80 = .ok (.bipush 9, 2) := by decide +kernel
theorem dX8_readRoad_82 : decode cX8_readRoad 82 = .ok (.invokevirtual 230, 3) := by decide +kernel
theorem dX8_readRoad_85 : decode cX8_readRoad 85 = .ok (.istore 4, 2) := by decide +kernel
theorem dX8_readRoad_87 : decode cX8_readRoad 87 = .ok (.aload_n 0, 1) := by decide +kernel
theorem dX8_readRoad_88 : decode cX8_readRoad 88 = .ok (.getfield 199, 3) := by decide +kernel
theorem dX8_readRoad_91 : decode cX8_readRoad 91 = .ok (.ifCond .eq 4, 3) := by decide +kernel
theorem dX8_readRoad_94 : decode cX8_readRoad 94 = .ok (.return_, 1) := by decide +kernel
theorem dX8_readRoad_95 : decode cX8_readRoad 95 = .ok (.aload_n 0, 1) := by decide +kernel
theorem dX8_readRoad_96 : decode cX8_readRoad 96 = .ok (.getfield 38, 3) := by decide +kernel
theorem dX8_readRoad_99 : decode cX8_readRoad 99 = .ok (.iload_n 3, 1) := by decide +kernel
theorem dX8_readRoad_100 : decode cX8_readRoad 100 = .ok (.iload_n 1, 1) := by decide +kernel
theorem dX8_readRoad_101 : decode cX8_readRoad 101 = .ok (.iload_n 2, 1) := by decide +kernel
theorem dX8_readRoad_102 : decode cX8_readRoad 102 = .ok (.invokestatic 276, 3) := by decide +kernel
theorem dX8_readRoad_105 : decode cX8_readRoad 105 = .ok (.iadd, 1) := by decide +kernel
theorem dX8_readRoad_106 : decode cX8_readRoad 106 = .ok (.iload 4, 2) := by decide +kernel
theorem dX8_readRoad_108 : decode cX8_readRoad 108 = .ok (.iastore, 1) := by decide +kernel
theorem dX8_readRoad_109 : decode cX8_readRoad 109 = .ok (.aload_n 0, 1) := by decide +kernel
theorem dX8_readRoad_110 : decode cX8_readRoad 110 = .ok (.getfield 38, 3) := by decide +kernel
theorem dX8_readRoad_113 : decode cX8_readRoad 113 = .ok (.iload_n 3, 1) := by decide +kernel
theorem dX8_readRoad_114 : decode cX8_readRoad 114 = .ok (.iload_n 2, 1) := by decide +kernel
theorem dX8_readRoad_115 : decode cX8_readRoad 115 = .ok (.iload_n 1, 1) := by decide +kernel
theorem dX8_readRoad_116 : decode cX8_readRoad 116 = .ok (.invokestatic 276, 3) := by decide +kernel
theorem dX8_readRoad_119 : decode cX8_readRoad 119 = .ok (.iadd, 1) := by decide +kernel
theorem dX8_readRoad_120 : decode cX8_readRoad 120 = .ok (.iload 4, 2) := by decide +kernel
theorem dX8_readRoad_122 : decode cX8_readRoad 122 = .ok (.iastore, 1) := by decide +kernel
theorem dX8_readRoad_123 : decode cX8_readRoad 123 = .ok (.aload_n 0, 1) := by decide +kernel
theorem dX8_readRoad_124 : decode cX8_readRoad 124 = .ok (.getfield 34, 3) := by decide +kernel
theorem dX8_readRoad_127 : decode cX8_readRoad 127 = .ok (.bipush 9, 2) := by decide +kernel
theorem dX8_readRoad_129 : decode cX8_readRoad 129 = .ok (.dup2, 1) := by decide +kernel
theorem dX8_readRoad_130 : decode cX8_readRoad 130 = .ok (.iaload, 1) := by decide +kernel
theorem dX8_readRoad_131 : decode cX8_readRoad 131 = .ok (.iconst 1, 1) := by decide +kernel
theorem dX8_readRoad_132 : decode cX8_readRoad 132 = .ok (.iadd, 1) := by decide +kernel
theorem dX8_readRoad_133 : decode cX8_readRoad 133 = .ok (.iastore, 1) := by decide +kernel
theorem dX8_readRoad_134 : decode cX8_readRoad 134 = .ok (.return_, 1) := by decide +kernel
theorem dX8_readJudge_0 : decode cX8_readJudge 0 = .ok (.aload_n 0, 1) := by decide +kernel
theorem dX8_readJudge_1 : decode cX8_readJudge 1 = .ok (.iconst 4, 1) := by decide +kernel
theorem dX8_readJudge_2 : decode cX8_readJudge 2 = .ok (.iconst 5, 1) := by decide +kernel
theorem dX8_readJudge_3 : decode cX8_readJudge 3 = .ok (.invokevirtual 267, 3) := by decide +kernel
theorem dX8_readJudge_6 : decode cX8_readJudge 6 = .ok (.ifCond .ne 4, 3) := by decide +kernel
theorem dX8_readJudge_9 : decode cX8_readJudge 9 = .ok (.return_, 1) := by decide +kernel
theorem dX8_readJudge_10 : decode cX8_readJudge 10 = .ok (.iconst 5, 1) := by decide +kernel
theorem dX8_readJudge_11 : decode cX8_readJudge 11 = .ok (.aload_n 0, 1) := by decide +kernel
theorem dX8_readJudge_12 : decode cX8_readJudge 12 = .ok (.getfield 34, 3) := by decide +kernel
theorem dX8_readJudge_15 : decode cX8_readJudge 15 = .ok (.bipush 11, 2) := by decide +kernel
theorem dX8_readJudge_17 : decode cX8_readJudge 17 = .ok (.iaload, 1) := by decide +kernel
theorem dX8_readJudge_18 : decode cX8_readJudge 18 = .ok (.iadd, 1) := by decide +kernel
theorem dX8_readJudge_19 : decode cX8_readJudge 19 = .ok (.istore_n 2, 1) := by decide +kernel
theorem dX8_readJudge_20 : decode cX8_readJudge 20 = .ok (.aload_n 0, 1) := by decide +kernel
theorem dX8_readJudge_21 : decode cX8_readJudge 21 = .ok (.getfield 41, 3) := by decide +kernel
theorem dX8_readJudge_24 : decode cX8_readJudge 24 = .ok (.iload_n 2, 1) := by decide +kernel
theorem dX8_readJudge_25 : decode cX8_readJudge 25 = .ok (.iload_n 1, 1) := by decide +kernel
theorem dX8_readJudge_26 : decode cX8_readJudge 26 = .ok (.iastore, 1) := by decide +kernel
theorem dX8_readJudge_27 : decode cX8_readJudge 27 = .ok (.aload_n 0, 1) := by decide +kernel
theorem dX8_readJudge_28 : decode cX8_readJudge 28 = .ok (.getfield 44, 3) := by decide +kernel
theorem dX8_readJudge_31 : decode cX8_readJudge 31 = .ok (.iload_n 2, 1) := by decide +kernel
theorem dX8_readJudge_32 : decode cX8_readJudge 32 = .ok (.aload_n 0, 1) := by decide +kernel
theorem dX8_readJudge_33 : decode cX8_readJudge 33 = .ok (.iconst 0, 1) := by decide +kernel
theorem dX8_readJudge_34 : decode cX8_readJudge 34 = .ok (.bipush 60, 2) := by decide +kernel
theorem dX8_readJudge_36 : decode cX8_readJudge 36 = .ok (.invokevirtual 230, 3) := by decide +kernel
theorem dX8_readJudge_39 : decode cX8_readJudge 39 = .ok (.iastore, 1) := by decide +kernel
theorem dX8_readJudge_40 : decode cX8_readJudge 40 = .ok (.aload_n 0, 1) := by decide +kernel
theorem dX8_readJudge_41 : decode cX8_readJudge 41 = .ok (.getfield 47, 3) := by decide +kernel
theorem dX8_readJudge_44 : decode cX8_readJudge 44 = .ok (.iload_n 2, 1) := by decide +kernel
theorem dX8_readJudge_45 : decode cX8_readJudge 45 = .ok (.aload_n 0, 1) := by decide +kernel
theorem dX8_readJudge_46 : decode cX8_readJudge 46 = .ok (.iconst 0, 1) := by decide +kernel
theorem dX8_readJudge_47 : decode cX8_readJudge 47 = .ok (.bipush 9, 2) := by decide +kernel
theorem dX8_readJudge_49 : decode cX8_readJudge 49 = .ok (.invokevirtual 230, 3) := by decide +kernel
theorem dX8_readJudge_52 : decode cX8_readJudge 52 = .ok (.iastore, 1) := by decide +kernel
theorem dX8_readJudge_53 : decode cX8_readJudge 53 = .ok (.iconst 0, 1) := by decide +kernel
theorem dX8_readJudge_54 : decode cX8_readJudge 54 = .ok (.istore_n 3, 1) := by decide +kernel
theorem dX8_readJudge_55 : decode cX8_readJudge 55 = .ok (.aload_n 0, 1) := by decide +kernel
theorem dX8_readJudge_56 : decode cX8_readJudge 56 = .ok (.getfield 199, 3) := by decide +kernel
theorem dX8_readJudge_59 : decode cX8_readJudge 59 = .ok (.ifCond .ne 16, 3) := by decide +kernel
theorem dX8_readJudge_62 : decode cX8_readJudge 62 = .ok (.aload_n 0, 1) := by decide +kernel
theorem dX8_readJudge_63 : decode cX8_readJudge 63 = .ok (.getfield 173, 3) := by decide +kernel
theorem dX8_readJudge_66 : decode cX8_readJudge 66 = .ok (.iconst 2, 1) := by decide +kernel
theorem dX8_readJudge_67 : decode cX8_readJudge 67 = .ok (.if_icmp .eq 8, 3) := by decide +kernel
theorem dX8_readJudge_70 : decode cX8_readJudge 70 = .ok (.aload_n 0, 1) := by decide +kernel
theorem dX8_readJudge_71 : decode cX8_readJudge 71 = .ok (.iconst 1, 1) := by decide +kernel
theorem dX8_readJudge_72 : decode cX8_readJudge 72 = .ok (.invokevirtual 220, 3) := by decide +kernel
theorem dX8_readJudge_75 : decode cX8_readJudge 75 = .ok (.aload_n 0, 1) := by decide +kernel
theorem dX8_readJudge_76 : decode cX8_readJudge 76 = .ok (.getfield 199, 3) := by decide +kernel
theorem dX8_readJudge_79 : decode cX8_readJudge 79 = .ok (.ifCond .ne 107, 3) := by decide +kernel
theorem dX8_readJudge_82 : decode cX8_readJudge 82 = .ok (.aload_n 0, 1) := by decide +kernel
theorem dX8_readJudge_83 : decode cX8_readJudge 83 = .ok (.getfield 173, 3) := by decide +kernel
theorem dX8_readJudge_86 : decode cX8_readJudge 86 = .ok (.iconst 2, 1) := by decide +kernel
theorem dX8_readJudge_87 : decode cX8_readJudge 87 = .ok (.if_icmp .ne 99, 3) := by decide +kernel
theorem dX8_readJudge_90 : decode cX8_readJudge 90 = .ok (.iload_n 3, 1) := by decide +kernel
theorem dX8_readJudge_91 : decode cX8_readJudge 91 = .ok (.bipush 7, 2) := by decide +kernel
theorem dX8_readJudge_93 : decode cX8_readJudge 93 = .ok (.if_icmp .ne 8, 3) := by decide +kernel
theorem dX8_readJudge_96 : decode cX8_readJudge 96 = .ok (.aload_n 0, 1) := by decide +kernel
theorem dX8_readJudge_97 : decode cX8_readJudge 97 = .ok (.iconst 2, 1) := by decide +kernel
theorem dX8_readJudge_98 : decode cX8_readJudge 98 = .ok (.invokevirtual 220, 3) := by decide +kernel
theorem dX8_readJudge_101 : decode cX8_readJudge 101 = .ok (.aload_n 0, 1) := by decide +kernel
theorem dX8_readJudge_102 : decode cX8_readJudge 102 = .ok (.invokevirtual 273, 3) := by decide +kernel
theorem dX8_readJudge_105 : decode cX8_readJudge 105 = .ok (.istore 4, 2) := by decide +kernel
theorem dX8_readJudge_107 : decode cX8_readJudge 107 = .ok (.aload_n 0, 1) := by decide +kernel
theorem dX8_readJudge_108 : decode cX8_readJudge 108 = .ok (.getfield 199, 3) := by decide +kernel
theorem dX8_readJudge_111 : decode cX8_readJudge 111 = .ok (.ifCond .ne 42, 3) := by decide +kernel
theorem dX8_readJudge_114 : decode cX8_readJudge 114 = .ok (.iload_n 3, 1) := by decide +kernel
theorem dX8_readJudge_115 : decode cX8_readJudge 115 = .ok (.ifCond .le 38, 3) := by decide +kernel
theorem dX8_readJudge_118 : decode cX8_readJudge 118 = .ok (.aload_n 0, 1) := by decide +kernel
theorem dX8_readJudge_119 : decode cX8_readJudge 119 = .ok (.getfield 38, 3) := by decide +kernel
theorem dX8_readJudge_122 : decode cX8_readJudge 122 = .ok (.bipush 81, 2) := by decide +kernel
theorem dX8_readJudge_124 : decode cX8_readJudge 124 = .ok (.aload_n 0, 1) := by decide +kernel
theorem dX8_readJudge_125 : decode cX8_readJudge 125 = .ok (.getfield 52, 3) := by decide +kernel
theorem dX8_readJudge_128 : decode cX8_readJudge 128 = .ok (.bipush 7, 2) := by decide +kernel
theorem dX8_readJudge_130 : decode cX8_readJudge 130 = .ok (.iload_n 2, 1) := by decide +kernel
theorem dX8_readJudge_131 : decode cX8_readJudge 131 = .ok (.imul, 1) := by decide +kernel
theorem dX8_readJudge_132 : decode cX8_readJudge 132 = .ok (.iload_n 3, 1) := by decide +kernel
theorem dX8_readJudge_133 : decode cX8_readJudge 133 = .ok (.iadd, 1) := by decide +kernel
theorem dX8_readJudge_134 : decode cX8_readJudge 134 = .ok (.iconst 1, 1) := by decide +kernel
theorem dX8_readJudge_135 : decode cX8_readJudge 135 = .ok (.isub, 1) := by decide +kernel
theorem dX8_readJudge_136 : decode cX8_readJudge 136 = .ok (.iaload, 1) := by decide +kernel
theorem dX8_readJudge_137 : decode cX8_readJudge 137 = .ok (.iload 4, 2) := by decide +kernel
theorem dX8_readJudge_139 : decode cX8_readJudge 139 = .ok (.invokestatic 276, 3) := by decide +kernel
theorem dX8_readJudge_142 : decode cX8_readJudge 142 = .ok (.iadd, 1) := by decide +kernel
theorem dX8_readJudge_143 : decode cX8_readJudge 143 = .ok (.iaload, 1) := by decide +kernel
theorem dX8_readJudge_144 : decode cX8_readJudge 144 = .ok (.ifCond .ne 9, 3) := by decide +kernel
theorem dX8_readJudge_147 : decode cX8_readJudge 147 = .ok (.aload_n 0, 1) := by decide +kernel
theorem dX8_readJudge_148 : decode cX8_readJudge 148 = .ok (.bipush 6, 2) := by decide +kernel
theorem dX8_readJudge_150 : decode cX8_readJudge 150 = .ok (.invokevirtual 220, 3) := by decide +kernel
theorem dX8_readJudge_153 : decode cX8_readJudge 153 = .ok (.aload_n 0, 1) := by decide +kernel
theorem dX8_readJudge_154 : decode cX8_readJudge 154 = .ok (.getfield 199, 3) := by decide +kernel
theorem dX8_readJudge_157 : decode cX8_readJudge 157 = .ok (.ifCond .eq 6, 3) := by decide +kernel
theorem dX8_readJudge_160 : decode cX8_readJudge 160 = .ok (.goto (-85), 3) := by decide +kernel
theorem dX8_readJudge_163 : decode cX8_readJudge 163 = .ok (.aload_n 0, 1) := by decide +kernel
theorem dX8_readJudge_164 : decode cX8_readJudge 164 = .ok (.getfield 52, 3) := by decide +kernel
theorem dX8_readJudge_167 : decode cX8_readJudge 167 = .ok (.bipush 7, 2) := by decide +kernel
theorem dX8_readJudge_169 : decode cX8_readJudge 169 = .ok (.iload_n 2, 1) := by decide +kernel
theorem dX8_readJudge_170 : decode cX8_readJudge 170 = .ok (.imul, 1) := by decide +kernel
theorem dX8_readJudge_171 : decode cX8_readJudge 171 = .ok (.iload_n 3, 1) := by decide +kernel
theorem dX8_readJudge_172 : decode cX8_readJudge 172 = .ok (.iadd, 1) := by decide +kernel
theorem dX8_readJudge_173 : decode cX8_readJudge 173 = .ok (.iload 4, 2) := by decide +kernel
theorem dX8_readJudge_175 : decode cX8_readJudge 175 = .ok (.iastore, 1) := by decide +kernel
theorem dX8_readJudge_176 : decode cX8_readJudge 176 = .ok (.iinc 3 1, 3) := by decide +kernel
theorem dX8_readJudge_179 : decode cX8_readJudge 179 = .ok (.aload_n 0, 1) := by decide +kernel
theorem dX8_readJudge_180 : decode cX8_readJudge 180 = .ok (.invokevirtual 224, 3) := by decide +kernel
theorem dX8_readJudge_183 : decode cX8_readJudge 183 = .ok (.goto (-108), 3) := by decide +kernel
theorem dX8_readJudge_186 : decode cX8_readJudge 186 = .ok (.aload_n 0, 1) := by decide +kernel
theorem dX8_readJudge_187 : decode cX8_readJudge 187 = .ok (.getfield 49, 3) := by decide +kernel
theorem dX8_readJudge_190 : decode cX8_readJudge 190 = .ok (.iload_n 2, 1) := by decide +kernel
theorem dX8_readJudge_191 : decode cX8_readJudge 191 = .ok (.iload_n 3, 1) := by decide +kernel
theorem dX8_readJudge_192 : decode cX8_readJudge 192 = .ok (.iastore, 1) := by decide +kernel
theorem dX8_readJudge_193 : decode cX8_readJudge 193 = .ok (.aload_n 0, 1) := by decide +kernel
theorem dX8_readJudge_194 : decode cX8_readJudge 194 = .ok (.getfield 34, 3) := by decide +kernel
theorem dX8_readJudge_197 : decode cX8_readJudge 197 = .ok (.bipush 11, 2) := by decide +kernel
theorem dX8_readJudge_199 : decode cX8_readJudge 199 = .ok (.dup2, 1) := by decide +kernel
theorem dX8_readJudge_200 : decode cX8_readJudge 200 = .ok (.iaload, 1) := by decide +kernel
theorem dX8_readJudge_201 : decode cX8_readJudge 201 = .ok (.iconst 1, 1) := by decide +kernel
theorem dX8_readJudge_202 : decode cX8_readJudge 202 = .ok (.iadd, 1) := by decide +kernel
theorem dX8_readJudge_203 : decode cX8_readJudge 203 = .ok (.iastore, 1) := by decide +kernel
theorem dX8_readJudge_204 : decode cX8_readJudge 204 = .ok (.return_, 1) := by decide +kernel
def f_X8_readPart_56 (rc : Mem → Int32 → Option (Mem))   (I : Mem) (v2 : Int32) : Option (Mem) :=
  (f_X8_lay I ((-1 : Int32) - v2)).bind fun y1 =>
  if (y1 8 0 0 21) = 0 then ((f_X8_stepOn y1).bind fun y2 =>
  some y2) else (some y1)
theorem b_X8_readPart_56 (X : CX) (Q : State → Prop) (rc : Mem → Int32 → Option (Mem)) (dr : Nat) (Hrc : ∀ {I : Mem} {P : PMem} {O : Nat → Int64} {D : Bool} {n : Nat} {v1 : Int32} {r : (Mem)}, rc I v1 = some r → MethR yX8_readExpression cX8_readExpression 3 (none) dr [.inr (.inr (8, 0, 0)), .inl v1] I P O D n none r P O D n) {d : Nat} (hd : dr + 11 ≤ d) {I : Mem} {P : PMem} {O : Nat → Int64} {D : Bool} {n : Nat} {v2 : Int32} {r : (Mem)}  (h : f_X8_readPart_56 rc I v2 = some r) (E : EndR X cX8_readPart RX8 3 (none) d n none r P O D Q) : Here X cX8_readPart RX8 3 (none) d n 56 [some (.inr (.inr (8, 0, 0))), none, some (.inl v2)] [] I P O D n Q := by
  unfold f_X8_readPart_56 at h
  refine h_aload_n dX8_readPart_56 rfl ?_
  refine h_iconst (-1 : Int32) dX8_readPart_57 k_iconst_m1 ?_
  refine h_iload_n dX8_readPart_58 rfl ?_
  refine h_isub dX8_readPart_59 ?_
  obtain ⟨y1, hh1, h⟩ := obd_some h
  refine h_cVv [.inl ((-1 : Int32) - v2)] (m_X8_lay  hh1) cw_X8_233 dX8_readPart_60 rfl ok_8 (by omega) rfl (Or.inr rfl) rfl ?_
  refine h_aload_n dX8_readPart_63 rfl ?_
  refine g_X8_199  dX8_readPart_64 ?_
  refine h_if_ne (tgt := 74) dX8_readPart_67 (by decide) (fun q1 => ?_) (fun q1 => ?_)
  · rw [if_neg q1] at h
    cases h
    exact h_vret dX8_readPart_74 rfl E
  · rw [if_pos q1] at h
    refine h_aload_n dX8_readPart_70 rfl ?_
    obtain ⟨y2, hh2, h⟩ := obd_some h
    refine h_cVv [] (m_X8_stepOn  hh2) cw_X8_224 dX8_readPart_71 rfl ok_8 (by omega) rfl (Or.inr rfl) rfl ?_
    cases h
    exact h_vret dX8_readPart_74 rfl E
def f_X8_readPart (rc : Mem → Int32 → Option (Mem))   (I : Mem) (v1 : Int32) : Option (Mem) :=
  if (I 8 0 0 21) = 0 then (if (I 8 0 0 17) = (2 : Int32) then ((f_X8_readNumber I (0 : Int32) (9999 : Int32)).bind fun y6 =>
  (f_X8_lay y6.2 y6.1).bind fun y7 =>
  some y7) else (if (I 8 0 0 17) = (1 : Int32) then ((f_X8_which I 49).bind fun y4 =>
  if y4 = (-1 : Int32) then ((f_X8_wrong I (3 : Int32)).bind fun y5 =>
  f_X8_readPart_56 rc y5 y4) else (f_X8_readPart_56 rc I y4)) else ((f_X8_mark I (40 : Int32)).bind fun y1 =>
  (rc y1 (v1 + (1 : Int32))).bind fun y2 =>
  (f_X8_mark y2 (41 : Int32)).bind fun y3 =>
  some y3))) else (some I)
theorem b_X8_readPart (X : CX) (Q : State → Prop) (rc : Mem → Int32 → Option (Mem)) (dr : Nat) (Hrc : ∀ {I : Mem} {P : PMem} {O : Nat → Int64} {D : Bool} {n : Nat} {v1 : Int32} {r : (Mem)}, rc I v1 = some r → MethR yX8_readExpression cX8_readExpression 3 (none) dr [.inr (.inr (8, 0, 0)), .inl v1] I P O D n none r P O D n) {d : Nat} (hd : dr + 11 ≤ d) {I : Mem} {P : PMem} {O : Nat → Int64} {D : Bool} {n : Nat} {v1 : Int32} {r : (Mem)}  (h : f_X8_readPart rc I v1 = some r) (E : EndR X cX8_readPart RX8 3 (none) d n none r P O D Q) : Here X cX8_readPart RX8 3 (none) d n 0 [some (.inr (.inr (8, 0, 0))), some (.inl v1), none] [] I P O D n Q := by
  unfold f_X8_readPart at h
  refine h_aload_n dX8_readPart_0 rfl ?_
  refine g_X8_199  dX8_readPart_1 ?_
  refine h_if_eq (tgt := 8) dX8_readPart_4 (by decide) (fun q1 => ?_) (fun q1 => ?_)
  · rw [if_pos q1] at h
    refine h_aload_n dX8_readPart_8 rfl ?_
    refine g_X8_173  dX8_readPart_9 ?_
    refine h_iconst (2 : Int32) dX8_readPart_12 k_iconst_2 ?_
    refine h_icmp_ne (tgt := 29) dX8_readPart_13 (by decide) (fun q2 => ?_) (fun q2 => ?_)
    · rw [if_neg q2] at h
      refine h_aload_n dX8_readPart_29 rfl ?_
      refine g_X8_173  dX8_readPart_30 ?_
      refine h_iconst (1 : Int32) dX8_readPart_33 k_iconst_1 ?_
      refine h_icmp_ne (tgt := 75) dX8_readPart_34 (by decide) (fun q3 => ?_) (fun q3 => ?_)
      · rw [if_neg q3] at h
        refine h_aload_n dX8_readPart_75 rfl ?_
        refine h_bipush (40 : Int32) dX8_readPart_76 k_bipush_40 ?_
        obtain ⟨y1, hh1, h⟩ := obd_some h
        refine h_cVv [.inl (40 : Int32)] (m_X8_mark  hh1) cw_X8_240 dX8_readPart_78 rfl ok_8 (by omega) rfl (Or.inr rfl) rfl ?_
        refine h_aload_n dX8_readPart_81 rfl ?_
        refine h_iload_n dX8_readPart_82 rfl ?_
        refine h_iconst (1 : Int32) dX8_readPart_83 k_iconst_1 ?_
        refine h_iadd dX8_readPart_84 ?_
        obtain ⟨y2, hh2, h⟩ := obd_some h
        refine h_cVv [.inl (v1 + (1 : Int32))] (Hrc  hh2) cw_X8_243 dX8_readPart_85 rfl ok_8 (by omega) rfl (Or.inr rfl) rfl ?_
        refine h_aload_n dX8_readPart_88 rfl ?_
        refine h_bipush (41 : Int32) dX8_readPart_89 k_bipush_41 ?_
        obtain ⟨y3, hh3, h⟩ := obd_some h
        refine h_cVv [.inl (41 : Int32)] (m_X8_mark  hh3) cw_X8_240 dX8_readPart_91 rfl ok_8 (by omega) rfl (Or.inr rfl) rfl ?_
        cases h
        exact h_vret dX8_readPart_94 rfl E
      · rw [if_pos q3] at h
        refine h_aload_n dX8_readPart_37 rfl ?_
        refine h_aload_n dX8_readPart_38 rfl ?_
        refine g_X8_31  dX8_readPart_39 ?_
        obtain ⟨y4, hh4, h⟩ := obd_some h
        refine h_cVi [.inr (.inr (49, 0, 0))] (m_X8_which (Or.inr rfl) hh4) cw_X8_236 dX8_readPart_42 rfl ok_8 (by omega) rfl (Or.inr rfl) rfl ?_
        refine h_istore_n dX8_readPart_45 (by decide) rfl ?_
        refine h_iload_n dX8_readPart_46 rfl ?_
        refine h_iconst (-1 : Int32) dX8_readPart_47 k_iconst_m1 ?_
        refine h_icmp_ne (tgt := 56) dX8_readPart_48 (by decide) (fun q4 => ?_) (fun q4 => ?_)
        · rw [if_neg q4] at h
          exact h_mask [true, false, true] (b_X8_readPart_56 X Q rc dr Hrc hd  h E)
        · rw [if_pos q4] at h
          refine h_aload_n dX8_readPart_51 rfl ?_
          refine h_iconst (3 : Int32) dX8_readPart_52 k_iconst_3 ?_
          obtain ⟨y5, hh5, h⟩ := obd_some h
          refine h_cVv [.inl (3 : Int32)] (m_X8_wrong  hh5) cw_X8_220 dX8_readPart_53 rfl ok_8 (by omega) rfl (Or.inr rfl) rfl ?_
          exact h_mask [true, false, true] (b_X8_readPart_56 X Q rc dr Hrc hd  h E)
    · rw [if_pos q2] at h
      refine h_aload_n dX8_readPart_16 rfl ?_
      refine h_aload_n dX8_readPart_17 rfl ?_
      refine h_iconst (0 : Int32) dX8_readPart_18 k_iconst_0 ?_
      refine h_sipush (9999 : Int32) dX8_readPart_19 k_sipush_9999 ?_
      obtain ⟨y6, hh6, h⟩ := obd_some h
      refine h_cVi [.inl (0 : Int32), .inl (9999 : Int32)] (m_X8_readNumber  hh6) cw_X8_230 dX8_readPart_22 rfl ok_8 (by omega) rfl (Or.inr rfl) rfl ?_
      obtain ⟨y7, hh7, h⟩ := obd_some h
      refine h_cVv [.inl y6.1] (m_X8_lay  hh7) cw_X8_233 dX8_readPart_25 rfl ok_8 (by omega) rfl (Or.inr rfl) rfl ?_
      cases h
      exact h_vret dX8_readPart_28 rfl E
  · rw [if_neg q1] at h
    cases h
    exact h_vret dX8_readPart_7 rfl E
theorem m_X8_readPart (rc : Mem → Int32 → Option (Mem)) (dr : Nat) (Hrc : ∀ {I : Mem} {P : PMem} {O : Nat → Int64} {D : Bool} {n : Nat} {v1 : Int32} {r : (Mem)}, rc I v1 = some r → MethR yX8_readExpression cX8_readExpression 3 (none) dr [.inr (.inr (8, 0, 0)), .inl v1] I P O D n none r P O D n) {d : Nat} (hd : dr + 11 ≤ d) {I : Mem} {P : PMem} {O : Nat → Int64} {D : Bool} {n : Nat} {v1 : Int32} {r : (Mem)}  (h : f_X8_readPart rc I v1 = some r) : MethR yX8_readPart cX8_readPart 3 (none) d [.inr (.inr (8, 0, 0)), .inl v1] I P O D n none r P O D n := meth_R (Nat.le_refl _) (by decide) rfl (Nat.le_of_ble_eq_true rfl) rfl (fun X Q E => b_X8_readPart X Q rc dr Hrc hd  h E)
def f_X8_readProduct_39 (rc : Mem → Int32 → Option (Mem)) (k5 : Mem → Int32 → Option (Mem))  (I : Mem) (v1 : Int32) (s0 : Int32) : Option (Mem) :=
  (f_X8_stepOn I).bind fun y1 =>
  (f_X8_readPart rc y1 v1).bind fun y2 =>
  (f_X8_lay y2 s0).bind fun y3 =>
  k5 y3 v1
theorem b_X8_readProduct_39 (X : CX) (Q : State → Prop) (rc : Mem → Int32 → Option (Mem)) (dr : Nat) (Hrc : ∀ {I : Mem} {P : PMem} {O : Nat → Int64} {D : Bool} {n : Nat} {v1 : Int32} {r : (Mem)}, rc I v1 = some r → MethR yX8_readExpression cX8_readExpression 3 (none) dr [.inr (.inr (8, 0, 0)), .inl v1] I P O D n none r P O D n) {d : Nat} (hd : dr + 12 ≤ d) {I : Mem} {P : PMem} {O : Nat → Int64} {D : Bool} {n : Nat} {k5 : Mem → Int32 → Option (Mem)} {v1 : Int32} {s0 : Int32} {r : (Mem)}  (H5 : ∀ (I : Mem) (v1 : Int32), k5 I v1 = some r → Here X cX8_readProduct RX8 3 (none) d n 5 [some (.inr (.inr (8, 0, 0))), some (.inl v1), none] [] I P O D n Q) (h : f_X8_readProduct_39 rc k5 I v1 s0 = some r) (E : EndR X cX8_readProduct RX8 3 (none) d n none r P O D Q) : Here X cX8_readProduct RX8 3 (none) d n 39 [some (.inr (.inr (8, 0, 0))), some (.inl v1), none] [.inl s0] I P O D n Q := by
  unfold f_X8_readProduct_39 at h
  refine h_istore_n dX8_readProduct_39 (by decide) rfl ?_
  refine h_aload_n dX8_readProduct_40 rfl ?_
  obtain ⟨y1, hh1, h⟩ := obd_some h
  refine h_cVv [] (m_X8_stepOn  hh1) cw_X8_224 dX8_readProduct_41 rfl ok_8 (by omega) rfl (Or.inr rfl) rfl ?_
  refine h_aload_n dX8_readProduct_44 rfl ?_
  refine h_iload_n dX8_readProduct_45 rfl ?_
  obtain ⟨y2, hh2, h⟩ := obd_some h
  refine h_cVv [.inl v1] (m_X8_readPart (d := d - 1) rc dr Hrc (by omega)  hh2) cw_X8_246 dX8_readProduct_46 rfl ok_8 (by omega) rfl (Or.inr rfl) rfl ?_
  refine h_aload_n dX8_readProduct_49 rfl ?_
  refine h_iload_n dX8_readProduct_50 rfl ?_
  obtain ⟨y3, hh3, h⟩ := obd_some h
  refine h_cVv [.inl s0] (m_X8_lay  hh3) cw_X8_233 dX8_readProduct_51 rfl ok_8 (by omega) rfl (Or.inr rfl) rfl ?_
  refine h_goto (tgt := 5) dX8_readProduct_54 (by decide) ?_
  exact h_mask [true, true, false] (H5 _ _ h)
def f_X8_readProduct_23 (rc : Mem → Int32 → Option (Mem)) (k5 : Mem → Int32 → Option (Mem))  (I : Mem) (v1 : Int32) : Option (Mem) :=
  (f_X8_isMarked I (42 : Int32)).bind fun y1 =>
  if y1 = 0 then (f_X8_readProduct_39 rc k5 I v1 (-23 : Int32)) else (f_X8_readProduct_39 rc k5 I v1 (-22 : Int32))
theorem b_X8_readProduct_23 (X : CX) (Q : State → Prop) (rc : Mem → Int32 → Option (Mem)) (dr : Nat) (Hrc : ∀ {I : Mem} {P : PMem} {O : Nat → Int64} {D : Bool} {n : Nat} {v1 : Int32} {r : (Mem)}, rc I v1 = some r → MethR yX8_readExpression cX8_readExpression 3 (none) dr [.inr (.inr (8, 0, 0)), .inl v1] I P O D n none r P O D n) {d : Nat} (hd : dr + 12 ≤ d) {I : Mem} {P : PMem} {O : Nat → Int64} {D : Bool} {n : Nat} {k5 : Mem → Int32 → Option (Mem)} {v1 : Int32} {r : (Mem)}  (H5 : ∀ (I : Mem) (v1 : Int32), k5 I v1 = some r → Here X cX8_readProduct RX8 3 (none) d n 5 [some (.inr (.inr (8, 0, 0))), some (.inl v1), none] [] I P O D n Q) (h : f_X8_readProduct_23 rc k5 I v1 = some r) (E : EndR X cX8_readProduct RX8 3 (none) d n none r P O D Q) : Here X cX8_readProduct RX8 3 (none) d n 23 [some (.inr (.inr (8, 0, 0))), some (.inl v1), none] [] I P O D n Q := by
  unfold f_X8_readProduct_23 at h
  refine h_aload_n dX8_readProduct_23 rfl ?_
  refine h_bipush (42 : Int32) dX8_readProduct_24 k_bipush_42 ?_
  obtain ⟨y1, hh1, h⟩ := obd_some h
  refine h_cVi [.inl (42 : Int32)] (m_X8_isMarked  hh1) cw_X8_217 dX8_readProduct_26 rfl ok_8 (by omega) rfl (Or.inr rfl) rfl ?_
  refine h_if_eq (tgt := 37) dX8_readProduct_29 (by decide) (fun q1 => ?_) (fun q1 => ?_)
  · rw [if_pos q1] at h
    refine h_bipush (-23 : Int32) dX8_readProduct_37 k_bipush_m23 ?_
    exact (b_X8_readProduct_39 X Q rc dr Hrc hd H5  h E)
  · rw [if_neg q1] at h
    refine h_bipush (-22 : Int32) dX8_readProduct_32 k_bipush_m22 ?_
    refine h_goto (tgt := 39) dX8_readProduct_34 (by decide) ?_
    exact (b_X8_readProduct_39 X Q rc dr Hrc hd H5  h E)
def f_X8_readProduct_5 (rc : Mem → Int32 → Option (Mem))   : Nat → Mem → Int32 → Option (Mem)
  | 0, _, _ => none
  | fu + 1, I, v1 =>
    (f_X8_isMarked I (42 : Int32)).bind fun y1 =>
    if y1 = 0 then ((f_X8_isMarked I (47 : Int32)).bind fun y2 =>
    if y2 = 0 then (some I) else (f_X8_readProduct_23 rc (f_X8_readProduct_5 rc fu) I v1)) else (f_X8_readProduct_23 rc (f_X8_readProduct_5 rc fu) I v1)
theorem b_X8_readProduct_5 (X : CX) (Q : State → Prop) (rc : Mem → Int32 → Option (Mem)) (dr : Nat) (Hrc : ∀ {I : Mem} {P : PMem} {O : Nat → Int64} {D : Bool} {n : Nat} {v1 : Int32} {r : (Mem)}, rc I v1 = some r → MethR yX8_readExpression cX8_readExpression 3 (none) dr [.inr (.inr (8, 0, 0)), .inl v1] I P O D n none r P O D n) {d : Nat} (hd : dr + 12 ≤ d) {P : PMem} {O : Nat → Int64} {D : Bool} {n : Nat} {r : (Mem)}  : ∀ (fu : Nat) {I : Mem} {v1 : Int32}, f_X8_readProduct_5 rc fu I v1 = some r → EndR X cX8_readProduct RX8 3 (none) d n none r P O D Q → Here X cX8_readProduct RX8 3 (none) d n 5 [some (.inr (.inr (8, 0, 0))), some (.inl v1), none] [] I P O D n Q := by
  intro fu
  induction fu with
  | zero => intro I v1 h E; cases h
  | succ fu ih =>
  intro I v1 h E
  have H5 : ∀ (I : Mem) (v1 : Int32), f_X8_readProduct_5 rc fu I v1 = some r → Here X cX8_readProduct RX8 3 (none) d n 5 [some (.inr (.inr (8, 0, 0))), some (.inl v1), none] [] I P O D n Q := fun _ _ b => ih b E
  simp only [f_X8_readProduct_5] at h
  refine h_aload_n dX8_readProduct_5 rfl ?_
  refine h_bipush (42 : Int32) dX8_readProduct_6 k_bipush_42 ?_
  obtain ⟨y1, hh1, h⟩ := obd_some h
  refine h_cVi [.inl (42 : Int32)] (m_X8_isMarked  hh1) cw_X8_217 dX8_readProduct_8 rfl ok_8 (by omega) rfl (Or.inr rfl) rfl ?_
  refine h_if_ne (tgt := 23) dX8_readProduct_11 (by decide) (fun q1 => ?_) (fun q1 => ?_)
  · rw [if_neg q1] at h
    exact (b_X8_readProduct_23 X Q rc dr Hrc hd H5  h E)
  · rw [if_pos q1] at h
    refine h_aload_n dX8_readProduct_14 rfl ?_
    refine h_bipush (47 : Int32) dX8_readProduct_15 k_bipush_47 ?_
    obtain ⟨y2, hh2, h⟩ := obd_some h
    refine h_cVi [.inl (47 : Int32)] (m_X8_isMarked  hh2) cw_X8_217 dX8_readProduct_17 rfl ok_8 (by omega) rfl (Or.inr rfl) rfl ?_
    refine h_if_eq (tgt := 57) dX8_readProduct_20 (by decide) (fun q2 => ?_) (fun q2 => ?_)
    · rw [if_pos q2] at h
      cases h
      exact h_vret dX8_readProduct_57 rfl E
    · rw [if_neg q2] at h
      exact (b_X8_readProduct_23 X Q rc dr Hrc hd H5  h E)
def f_X8_readProduct (rc : Mem → Int32 → Option (Mem))   (I : Mem) (v1 : Int32) : Option (Mem) :=
  (f_X8_readPart rc I v1).bind fun y1 =>
  f_X8_readProduct_5 rc FU y1 v1
theorem b_X8_readProduct (X : CX) (Q : State → Prop) (rc : Mem → Int32 → Option (Mem)) (dr : Nat) (Hrc : ∀ {I : Mem} {P : PMem} {O : Nat → Int64} {D : Bool} {n : Nat} {v1 : Int32} {r : (Mem)}, rc I v1 = some r → MethR yX8_readExpression cX8_readExpression 3 (none) dr [.inr (.inr (8, 0, 0)), .inl v1] I P O D n none r P O D n) {d : Nat} (hd : dr + 12 ≤ d) {I : Mem} {P : PMem} {O : Nat → Int64} {D : Bool} {n : Nat} {v1 : Int32} {r : (Mem)}  (h : f_X8_readProduct rc I v1 = some r) (E : EndR X cX8_readProduct RX8 3 (none) d n none r P O D Q) : Here X cX8_readProduct RX8 3 (none) d n 0 [some (.inr (.inr (8, 0, 0))), some (.inl v1), none] [] I P O D n Q := by
  unfold f_X8_readProduct at h
  refine h_aload_n dX8_readProduct_0 rfl ?_
  refine h_iload_n dX8_readProduct_1 rfl ?_
  obtain ⟨y1, hh1, h⟩ := obd_some h
  refine h_cVv [.inl v1] (m_X8_readPart (d := d - 1) rc dr Hrc (by omega)  hh1) cw_X8_246 dX8_readProduct_2 rfl ok_8 (by omega) rfl (Or.inr rfl) rfl ?_
  exact (b_X8_readProduct_5 X Q rc dr Hrc hd FU  h E)
theorem m_X8_readProduct (rc : Mem → Int32 → Option (Mem)) (dr : Nat) (Hrc : ∀ {I : Mem} {P : PMem} {O : Nat → Int64} {D : Bool} {n : Nat} {v1 : Int32} {r : (Mem)}, rc I v1 = some r → MethR yX8_readExpression cX8_readExpression 3 (none) dr [.inr (.inr (8, 0, 0)), .inl v1] I P O D n none r P O D n) {d : Nat} (hd : dr + 12 ≤ d) {I : Mem} {P : PMem} {O : Nat → Int64} {D : Bool} {n : Nat} {v1 : Int32} {r : (Mem)}  (h : f_X8_readProduct rc I v1 = some r) : MethR yX8_readProduct cX8_readProduct 3 (none) d [.inr (.inr (8, 0, 0)), .inl v1] I P O D n none r P O D n := meth_R (Nat.le_refl _) (by decide) rfl (Nat.le_of_ble_eq_true rfl) rfl (fun X Q E => b_X8_readProduct X Q rc dr Hrc hd  h E)
def f_X8_readSum_39 (rc : Mem → Int32 → Option (Mem)) (k5 : Mem → Int32 → Option (Mem))  (I : Mem) (v1 : Int32) (s0 : Int32) : Option (Mem) :=
  (f_X8_stepOn I).bind fun y1 =>
  (f_X8_readProduct rc y1 v1).bind fun y2 =>
  (f_X8_lay y2 s0).bind fun y3 =>
  k5 y3 v1
theorem b_X8_readSum_39 (X : CX) (Q : State → Prop) (rc : Mem → Int32 → Option (Mem)) (dr : Nat) (Hrc : ∀ {I : Mem} {P : PMem} {O : Nat → Int64} {D : Bool} {n : Nat} {v1 : Int32} {r : (Mem)}, rc I v1 = some r → MethR yX8_readExpression cX8_readExpression 3 (none) dr [.inr (.inr (8, 0, 0)), .inl v1] I P O D n none r P O D n) {d : Nat} (hd : dr + 13 ≤ d) {I : Mem} {P : PMem} {O : Nat → Int64} {D : Bool} {n : Nat} {k5 : Mem → Int32 → Option (Mem)} {v1 : Int32} {s0 : Int32} {r : (Mem)}  (H5 : ∀ (I : Mem) (v1 : Int32), k5 I v1 = some r → Here X cX8_readSum RX8 3 (none) d n 5 [some (.inr (.inr (8, 0, 0))), some (.inl v1), none] [] I P O D n Q) (h : f_X8_readSum_39 rc k5 I v1 s0 = some r) (E : EndR X cX8_readSum RX8 3 (none) d n none r P O D Q) : Here X cX8_readSum RX8 3 (none) d n 39 [some (.inr (.inr (8, 0, 0))), some (.inl v1), none] [.inl s0] I P O D n Q := by
  unfold f_X8_readSum_39 at h
  refine h_istore_n dX8_readSum_39 (by decide) rfl ?_
  refine h_aload_n dX8_readSum_40 rfl ?_
  obtain ⟨y1, hh1, h⟩ := obd_some h
  refine h_cVv [] (m_X8_stepOn  hh1) cw_X8_224 dX8_readSum_41 rfl ok_8 (by omega) rfl (Or.inr rfl) rfl ?_
  refine h_aload_n dX8_readSum_44 rfl ?_
  refine h_iload_n dX8_readSum_45 rfl ?_
  obtain ⟨y2, hh2, h⟩ := obd_some h
  refine h_cVv [.inl v1] (m_X8_readProduct (d := d - 1) rc dr Hrc (by omega)  hh2) cw_X8_249 dX8_readSum_46 rfl ok_8 (by omega) rfl (Or.inr rfl) rfl ?_
  refine h_aload_n dX8_readSum_49 rfl ?_
  refine h_iload_n dX8_readSum_50 rfl ?_
  obtain ⟨y3, hh3, h⟩ := obd_some h
  refine h_cVv [.inl s0] (m_X8_lay  hh3) cw_X8_233 dX8_readSum_51 rfl ok_8 (by omega) rfl (Or.inr rfl) rfl ?_
  refine h_goto (tgt := 5) dX8_readSum_54 (by decide) ?_
  exact h_mask [true, true, false] (H5 _ _ h)
def f_X8_readSum_23 (rc : Mem → Int32 → Option (Mem)) (k5 : Mem → Int32 → Option (Mem))  (I : Mem) (v1 : Int32) : Option (Mem) :=
  (f_X8_isMarked I (43 : Int32)).bind fun y1 =>
  if y1 = 0 then (f_X8_readSum_39 rc k5 I v1 (-21 : Int32)) else (f_X8_readSum_39 rc k5 I v1 (-20 : Int32))
theorem b_X8_readSum_23 (X : CX) (Q : State → Prop) (rc : Mem → Int32 → Option (Mem)) (dr : Nat) (Hrc : ∀ {I : Mem} {P : PMem} {O : Nat → Int64} {D : Bool} {n : Nat} {v1 : Int32} {r : (Mem)}, rc I v1 = some r → MethR yX8_readExpression cX8_readExpression 3 (none) dr [.inr (.inr (8, 0, 0)), .inl v1] I P O D n none r P O D n) {d : Nat} (hd : dr + 13 ≤ d) {I : Mem} {P : PMem} {O : Nat → Int64} {D : Bool} {n : Nat} {k5 : Mem → Int32 → Option (Mem)} {v1 : Int32} {r : (Mem)}  (H5 : ∀ (I : Mem) (v1 : Int32), k5 I v1 = some r → Here X cX8_readSum RX8 3 (none) d n 5 [some (.inr (.inr (8, 0, 0))), some (.inl v1), none] [] I P O D n Q) (h : f_X8_readSum_23 rc k5 I v1 = some r) (E : EndR X cX8_readSum RX8 3 (none) d n none r P O D Q) : Here X cX8_readSum RX8 3 (none) d n 23 [some (.inr (.inr (8, 0, 0))), some (.inl v1), none] [] I P O D n Q := by
  unfold f_X8_readSum_23 at h
  refine h_aload_n dX8_readSum_23 rfl ?_
  refine h_bipush (43 : Int32) dX8_readSum_24 k_bipush_43 ?_
  obtain ⟨y1, hh1, h⟩ := obd_some h
  refine h_cVi [.inl (43 : Int32)] (m_X8_isMarked  hh1) cw_X8_217 dX8_readSum_26 rfl ok_8 (by omega) rfl (Or.inr rfl) rfl ?_
  refine h_if_eq (tgt := 37) dX8_readSum_29 (by decide) (fun q1 => ?_) (fun q1 => ?_)
  · rw [if_pos q1] at h
    refine h_bipush (-21 : Int32) dX8_readSum_37 k_bipush_m21 ?_
    exact (b_X8_readSum_39 X Q rc dr Hrc hd H5  h E)
  · rw [if_neg q1] at h
    refine h_bipush (-20 : Int32) dX8_readSum_32 k_bipush_m20 ?_
    refine h_goto (tgt := 39) dX8_readSum_34 (by decide) ?_
    exact (b_X8_readSum_39 X Q rc dr Hrc hd H5  h E)
def f_X8_readSum_5 (rc : Mem → Int32 → Option (Mem))   : Nat → Mem → Int32 → Option (Mem)
  | 0, _, _ => none
  | fu + 1, I, v1 =>
    (f_X8_isMarked I (43 : Int32)).bind fun y1 =>
    if y1 = 0 then ((f_X8_isMarked I (45 : Int32)).bind fun y2 =>
    if y2 = 0 then (some I) else (f_X8_readSum_23 rc (f_X8_readSum_5 rc fu) I v1)) else (f_X8_readSum_23 rc (f_X8_readSum_5 rc fu) I v1)
theorem b_X8_readSum_5 (X : CX) (Q : State → Prop) (rc : Mem → Int32 → Option (Mem)) (dr : Nat) (Hrc : ∀ {I : Mem} {P : PMem} {O : Nat → Int64} {D : Bool} {n : Nat} {v1 : Int32} {r : (Mem)}, rc I v1 = some r → MethR yX8_readExpression cX8_readExpression 3 (none) dr [.inr (.inr (8, 0, 0)), .inl v1] I P O D n none r P O D n) {d : Nat} (hd : dr + 13 ≤ d) {P : PMem} {O : Nat → Int64} {D : Bool} {n : Nat} {r : (Mem)}  : ∀ (fu : Nat) {I : Mem} {v1 : Int32}, f_X8_readSum_5 rc fu I v1 = some r → EndR X cX8_readSum RX8 3 (none) d n none r P O D Q → Here X cX8_readSum RX8 3 (none) d n 5 [some (.inr (.inr (8, 0, 0))), some (.inl v1), none] [] I P O D n Q := by
  intro fu
  induction fu with
  | zero => intro I v1 h E; cases h
  | succ fu ih =>
  intro I v1 h E
  have H5 : ∀ (I : Mem) (v1 : Int32), f_X8_readSum_5 rc fu I v1 = some r → Here X cX8_readSum RX8 3 (none) d n 5 [some (.inr (.inr (8, 0, 0))), some (.inl v1), none] [] I P O D n Q := fun _ _ b => ih b E
  simp only [f_X8_readSum_5] at h
  refine h_aload_n dX8_readSum_5 rfl ?_
  refine h_bipush (43 : Int32) dX8_readSum_6 k_bipush_43 ?_
  obtain ⟨y1, hh1, h⟩ := obd_some h
  refine h_cVi [.inl (43 : Int32)] (m_X8_isMarked  hh1) cw_X8_217 dX8_readSum_8 rfl ok_8 (by omega) rfl (Or.inr rfl) rfl ?_
  refine h_if_ne (tgt := 23) dX8_readSum_11 (by decide) (fun q1 => ?_) (fun q1 => ?_)
  · rw [if_neg q1] at h
    exact (b_X8_readSum_23 X Q rc dr Hrc hd H5  h E)
  · rw [if_pos q1] at h
    refine h_aload_n dX8_readSum_14 rfl ?_
    refine h_bipush (45 : Int32) dX8_readSum_15 k_bipush_45 ?_
    obtain ⟨y2, hh2, h⟩ := obd_some h
    refine h_cVi [.inl (45 : Int32)] (m_X8_isMarked  hh2) cw_X8_217 dX8_readSum_17 rfl ok_8 (by omega) rfl (Or.inr rfl) rfl ?_
    refine h_if_eq (tgt := 57) dX8_readSum_20 (by decide) (fun q2 => ?_) (fun q2 => ?_)
    · rw [if_pos q2] at h
      cases h
      exact h_vret dX8_readSum_57 rfl E
    · rw [if_neg q2] at h
      exact (b_X8_readSum_23 X Q rc dr Hrc hd H5  h E)
def f_X8_readSum (rc : Mem → Int32 → Option (Mem))   (I : Mem) (v1 : Int32) : Option (Mem) :=
  (f_X8_readProduct rc I v1).bind fun y1 =>
  f_X8_readSum_5 rc FU y1 v1
theorem b_X8_readSum (X : CX) (Q : State → Prop) (rc : Mem → Int32 → Option (Mem)) (dr : Nat) (Hrc : ∀ {I : Mem} {P : PMem} {O : Nat → Int64} {D : Bool} {n : Nat} {v1 : Int32} {r : (Mem)}, rc I v1 = some r → MethR yX8_readExpression cX8_readExpression 3 (none) dr [.inr (.inr (8, 0, 0)), .inl v1] I P O D n none r P O D n) {d : Nat} (hd : dr + 13 ≤ d) {I : Mem} {P : PMem} {O : Nat → Int64} {D : Bool} {n : Nat} {v1 : Int32} {r : (Mem)}  (h : f_X8_readSum rc I v1 = some r) (E : EndR X cX8_readSum RX8 3 (none) d n none r P O D Q) : Here X cX8_readSum RX8 3 (none) d n 0 [some (.inr (.inr (8, 0, 0))), some (.inl v1), none] [] I P O D n Q := by
  unfold f_X8_readSum at h
  refine h_aload_n dX8_readSum_0 rfl ?_
  refine h_iload_n dX8_readSum_1 rfl ?_
  obtain ⟨y1, hh1, h⟩ := obd_some h
  refine h_cVv [.inl v1] (m_X8_readProduct (d := d - 1) rc dr Hrc (by omega)  hh1) cw_X8_249 dX8_readSum_2 rfl ok_8 (by omega) rfl (Or.inr rfl) rfl ?_
  exact (b_X8_readSum_5 X Q rc dr Hrc hd FU  h E)
theorem m_X8_readSum (rc : Mem → Int32 → Option (Mem)) (dr : Nat) (Hrc : ∀ {I : Mem} {P : PMem} {O : Nat → Int64} {D : Bool} {n : Nat} {v1 : Int32} {r : (Mem)}, rc I v1 = some r → MethR yX8_readExpression cX8_readExpression 3 (none) dr [.inr (.inr (8, 0, 0)), .inl v1] I P O D n none r P O D n) {d : Nat} (hd : dr + 13 ≤ d) {I : Mem} {P : PMem} {O : Nat → Int64} {D : Bool} {n : Nat} {v1 : Int32} {r : (Mem)}  (h : f_X8_readSum rc I v1 = some r) : MethR yX8_readSum cX8_readSum 3 (none) d [.inr (.inr (8, 0, 0)), .inl v1] I P O D n none r P O D n := meth_R (Nat.le_refl _) (by decide) rfl (Nat.le_of_ble_eq_true rfl) rfl (fun X Q E => b_X8_readSum X Q rc dr Hrc hd  h E)
def f_X8_readNot_95 (rc : Mem → Int32 → Option (Mem))   : Nat → Mem → Int32 → Int32 → Option (Mem)
  | 0, _, _, _ => none
  | fu + 1, I, v2, v3 =>
    if v2 ≤ v3 then (some I) else ((f_X8_lay I (-28 : Int32)).bind fun y1 =>
    (f_X8_readNot_95 rc fu) y1 v2 (v3 + (1 : Int32)))
theorem b_X8_readNot_95 (X : CX) (Q : State → Prop) (rc : Mem → Int32 → Option (Mem)) (dr : Nat) (Hrc : ∀ {I : Mem} {P : PMem} {O : Nat → Int64} {D : Bool} {n : Nat} {v1 : Int32} {r : (Mem)}, rc I v1 = some r → MethR yX8_readExpression cX8_readExpression 3 (none) dr [.inr (.inr (8, 0, 0)), .inl v1] I P O D n none r P O D n) {d : Nat} (hd : dr + 14 ≤ d) {P : PMem} {O : Nat → Int64} {D : Bool} {n : Nat} {r : (Mem)}  : ∀ (fu : Nat) {I : Mem} {v2 : Int32} {v3 : Int32}, f_X8_readNot_95 rc fu I v2 v3 = some r → EndR X cX8_readNot RX8 4 (none) d n none r P O D Q → Here X cX8_readNot RX8 4 (none) d n 95 [some (.inr (.inr (8, 0, 0))), none, some (.inl v2), some (.inl v3)] [] I P O D n Q := by
  intro fu
  induction fu with
  | zero => intro I v2 v3 h E; cases h
  | succ fu ih =>
  intro I v2 v3 h E
  have H95 : ∀ (I : Mem) (v2 : Int32) (v3 : Int32), f_X8_readNot_95 rc fu I v2 v3 = some r → Here X cX8_readNot RX8 4 (none) d n 95 [some (.inr (.inr (8, 0, 0))), none, some (.inl v2), some (.inl v3)] [] I P O D n Q := fun _ _ _ b => ih b E
  simp only [f_X8_readNot_95] at h
  refine h_iload_n dX8_readNot_95 rfl ?_
  refine h_iload_n dX8_readNot_96 rfl ?_
  refine h_icmp_ge (tgt := 112) dX8_readNot_97 (by decide) (fun q1 => ?_) (fun q1 => ?_)
  · rw [if_pos q1] at h
    cases h
    exact h_vret dX8_readNot_112 rfl E
  · rw [if_neg q1] at h
    refine h_aload_n dX8_readNot_100 rfl ?_
    refine h_bipush (-28 : Int32) dX8_readNot_101 k_bipush_m28 ?_
    obtain ⟨y1, hh1, h⟩ := obd_some h
    refine h_cVv [.inl (-28 : Int32)] (m_X8_lay  hh1) cw_X8_233 dX8_readNot_103 rfl ok_8 (by omega) rfl (Or.inr rfl) rfl ?_
    refine h_iinc (1 : Int32) dX8_readNot_106 rfl k_iinc_1 (by decide) rfl ?_
    refine h_goto (tgt := 95) dX8_readNot_109 (by decide) ?_
    exact (H95 _ _ _ h)
def f_X8_readNot_93 (rc : Mem → Int32 → Option (Mem))   (I : Mem) (v2 : Int32) : Option (Mem) :=
  f_X8_readNot_95 rc FU I v2 (0 : Int32)
theorem b_X8_readNot_93 (X : CX) (Q : State → Prop) (rc : Mem → Int32 → Option (Mem)) (dr : Nat) (Hrc : ∀ {I : Mem} {P : PMem} {O : Nat → Int64} {D : Bool} {n : Nat} {v1 : Int32} {r : (Mem)}, rc I v1 = some r → MethR yX8_readExpression cX8_readExpression 3 (none) dr [.inr (.inr (8, 0, 0)), .inl v1] I P O D n none r P O D n) {d : Nat} (hd : dr + 14 ≤ d) {I : Mem} {P : PMem} {O : Nat → Int64} {D : Bool} {n : Nat} {v2 : Int32} {r : (Mem)}  (h : f_X8_readNot_93 rc I v2 = some r) (E : EndR X cX8_readNot RX8 4 (none) d n none r P O D Q) : Here X cX8_readNot RX8 4 (none) d n 93 [some (.inr (.inr (8, 0, 0))), none, some (.inl v2), none] [] I P O D n Q := by
  unfold f_X8_readNot_93 at h
  refine h_iconst (0 : Int32) dX8_readNot_93 k_iconst_0 ?_
  refine h_istore_n dX8_readNot_94 (by decide) rfl ?_
  exact (b_X8_readNot_95 X Q rc dr Hrc hd FU  h E)
def f_X8_readNot_78 (rc : Mem → Int32 → Option (Mem))   (I : Mem) (v1 : Int32) (v2 : Int32) (s0 : Int32) : Option (Mem) :=
  (f_X8_stepOn I).bind fun y1 =>
  (f_X8_readSum rc y1 v1).bind fun y2 =>
  (f_X8_lay y2 s0).bind fun y3 =>
  f_X8_readNot_93 rc y3 v2
theorem b_X8_readNot_78 (X : CX) (Q : State → Prop) (rc : Mem → Int32 → Option (Mem)) (dr : Nat) (Hrc : ∀ {I : Mem} {P : PMem} {O : Nat → Int64} {D : Bool} {n : Nat} {v1 : Int32} {r : (Mem)}, rc I v1 = some r → MethR yX8_readExpression cX8_readExpression 3 (none) dr [.inr (.inr (8, 0, 0)), .inl v1] I P O D n none r P O D n) {d : Nat} (hd : dr + 14 ≤ d) {I : Mem} {P : PMem} {O : Nat → Int64} {D : Bool} {n : Nat} {v1 : Int32} {v2 : Int32} {s0 : Int32} {r : (Mem)}  (h : f_X8_readNot_78 rc I v1 v2 s0 = some r) (E : EndR X cX8_readNot RX8 4 (none) d n none r P O D Q) : Here X cX8_readNot RX8 4 (none) d n 78 [some (.inr (.inr (8, 0, 0))), some (.inl v1), some (.inl v2), none] [.inl s0] I P O D n Q := by
  unfold f_X8_readNot_78 at h
  refine h_istore_n dX8_readNot_78 (by decide) rfl ?_
  refine h_aload_n dX8_readNot_79 rfl ?_
  obtain ⟨y1, hh1, h⟩ := obd_some h
  refine h_cVv [] (m_X8_stepOn  hh1) cw_X8_224 dX8_readNot_80 rfl ok_8 (by omega) rfl (Or.inr rfl) rfl ?_
  refine h_aload_n dX8_readNot_83 rfl ?_
  refine h_iload_n dX8_readNot_84 rfl ?_
  obtain ⟨y2, hh2, h⟩ := obd_some h
  refine h_cVv [.inl v1] (m_X8_readSum (d := d - 1) rc dr Hrc (by omega)  hh2) cw_X8_254 dX8_readNot_85 rfl ok_8 (by omega) rfl (Or.inr rfl) rfl ?_
  refine h_aload_n dX8_readNot_88 rfl ?_
  refine h_iload_n dX8_readNot_89 rfl ?_
  obtain ⟨y3, hh3, h⟩ := obd_some h
  refine h_cVv [.inl s0] (m_X8_lay  hh3) cw_X8_233 dX8_readNot_90 rfl ok_8 (by omega) rfl (Or.inr rfl) rfl ?_
  exact h_mask [true, false, true, false] (b_X8_readNot_93 X Q rc dr Hrc hd  h E)
def f_X8_readNot_62 (rc : Mem → Int32 → Option (Mem))   (I : Mem) (v1 : Int32) (v2 : Int32) : Option (Mem) :=
  (f_X8_isMarked I (60 : Int32)).bind fun y1 =>
  if y1 = 0 then (f_X8_readNot_78 rc I v1 v2 (-25 : Int32)) else (f_X8_readNot_78 rc I v1 v2 (-24 : Int32))
theorem b_X8_readNot_62 (X : CX) (Q : State → Prop) (rc : Mem → Int32 → Option (Mem)) (dr : Nat) (Hrc : ∀ {I : Mem} {P : PMem} {O : Nat → Int64} {D : Bool} {n : Nat} {v1 : Int32} {r : (Mem)}, rc I v1 = some r → MethR yX8_readExpression cX8_readExpression 3 (none) dr [.inr (.inr (8, 0, 0)), .inl v1] I P O D n none r P O D n) {d : Nat} (hd : dr + 14 ≤ d) {I : Mem} {P : PMem} {O : Nat → Int64} {D : Bool} {n : Nat} {v1 : Int32} {v2 : Int32} {r : (Mem)}  (h : f_X8_readNot_62 rc I v1 v2 = some r) (E : EndR X cX8_readNot RX8 4 (none) d n none r P O D Q) : Here X cX8_readNot RX8 4 (none) d n 62 [some (.inr (.inr (8, 0, 0))), some (.inl v1), some (.inl v2), none] [] I P O D n Q := by
  unfold f_X8_readNot_62 at h
  refine h_aload_n dX8_readNot_62 rfl ?_
  refine h_bipush (60 : Int32) dX8_readNot_63 k_bipush_60 ?_
  obtain ⟨y1, hh1, h⟩ := obd_some h
  refine h_cVi [.inl (60 : Int32)] (m_X8_isMarked  hh1) cw_X8_217 dX8_readNot_65 rfl ok_8 (by omega) rfl (Or.inr rfl) rfl ?_
  refine h_if_eq (tgt := 76) dX8_readNot_68 (by decide) (fun q1 => ?_) (fun q1 => ?_)
  · rw [if_pos q1] at h
    refine h_bipush (-25 : Int32) dX8_readNot_76 k_bipush_m25 ?_
    exact (b_X8_readNot_78 X Q rc dr Hrc hd  h E)
  · rw [if_neg q1] at h
    refine h_bipush (-24 : Int32) dX8_readNot_71 k_bipush_m24 ?_
    refine h_goto (tgt := 78) dX8_readNot_73 (by decide) ?_
    exact (b_X8_readNot_78 X Q rc dr Hrc hd  h E)
def f_X8_readNot_22 (rc : Mem → Int32 → Option (Mem)) (k2 : Mem → Int32 → Int32 → Option (Mem))  (I : Mem) (v1 : Int32) (v2 : Int32) : Option (Mem) :=
  if (I 8 0 0 21) = 0 then ((f_X8_stepOn I).bind fun y1 =>
  k2 y1 v1 (v2 + (1 : Int32))) else (k2 I v1 (v2 + (1 : Int32)))
theorem b_X8_readNot_22 (X : CX) (Q : State → Prop) (rc : Mem → Int32 → Option (Mem)) (dr : Nat) (Hrc : ∀ {I : Mem} {P : PMem} {O : Nat → Int64} {D : Bool} {n : Nat} {v1 : Int32} {r : (Mem)}, rc I v1 = some r → MethR yX8_readExpression cX8_readExpression 3 (none) dr [.inr (.inr (8, 0, 0)), .inl v1] I P O D n none r P O D n) {d : Nat} (hd : dr + 14 ≤ d) {I : Mem} {P : PMem} {O : Nat → Int64} {D : Bool} {n : Nat} {k2 : Mem → Int32 → Int32 → Option (Mem)} {v1 : Int32} {v2 : Int32} {r : (Mem)}  (H2 : ∀ (I : Mem) (v1 : Int32) (v2 : Int32), k2 I v1 v2 = some r → Here X cX8_readNot RX8 4 (none) d n 2 [some (.inr (.inr (8, 0, 0))), some (.inl v1), some (.inl v2), none] [] I P O D n Q) (h : f_X8_readNot_22 rc k2 I v1 v2 = some r) (E : EndR X cX8_readNot RX8 4 (none) d n none r P O D Q) : Here X cX8_readNot RX8 4 (none) d n 22 [some (.inr (.inr (8, 0, 0))), some (.inl v1), some (.inl v2), none] [] I P O D n Q := by
  unfold f_X8_readNot_22 at h
  refine h_iinc (1 : Int32) dX8_readNot_22 rfl k_iinc_1 (by decide) rfl ?_
  refine h_aload_n dX8_readNot_25 rfl ?_
  refine g_X8_199  dX8_readNot_26 ?_
  refine h_if_ne (tgt := 2) dX8_readNot_29 (by decide) (fun q1 => ?_) (fun q1 => ?_)
  · rw [if_neg q1] at h
    exact (H2 _ _ _ h)
  · rw [if_pos q1] at h
    refine h_aload_n dX8_readNot_32 rfl ?_
    obtain ⟨y1, hh1, h⟩ := obd_some h
    refine h_cVv [] (m_X8_stepOn  hh1) cw_X8_224 dX8_readNot_33 rfl ok_8 (by omega) rfl (Or.inr rfl) rfl ?_
    refine h_goto (tgt := 2) dX8_readNot_36 (by decide) ?_
    exact (H2 _ _ _ h)
def f_X8_readNot_2 (rc : Mem → Int32 → Option (Mem))   : Nat → Mem → Int32 → Int32 → Option (Mem)
  | 0, _, _, _ => none
  | fu + 1, I, v1, v2 =>
    (f_X8_is I 20).bind fun y1 =>
    if y1 = 0 then ((f_X8_readSum rc I v1).bind fun y2 =>
    (f_X8_isMarked y2 (60 : Int32)).bind fun y3 =>
    if y3 = 0 then ((f_X8_isMarked y2 (61 : Int32)).bind fun y4 =>
    if y4 = 0 then (f_X8_readNot_93 rc y2 v2) else (f_X8_readNot_62 rc y2 v1 v2)) else (f_X8_readNot_62 rc y2 v1 v2)) else (if v2 = (6 : Int32) then ((f_X8_wrong I (2 : Int32)).bind fun y5 =>
    f_X8_readNot_22 rc (f_X8_readNot_2 rc fu) y5 v1 v2) else (f_X8_readNot_22 rc (f_X8_readNot_2 rc fu) I v1 v2))
theorem b_X8_readNot_2 (X : CX) (Q : State → Prop) (rc : Mem → Int32 → Option (Mem)) (dr : Nat) (Hrc : ∀ {I : Mem} {P : PMem} {O : Nat → Int64} {D : Bool} {n : Nat} {v1 : Int32} {r : (Mem)}, rc I v1 = some r → MethR yX8_readExpression cX8_readExpression 3 (none) dr [.inr (.inr (8, 0, 0)), .inl v1] I P O D n none r P O D n) {d : Nat} (hd : dr + 14 ≤ d) {P : PMem} {O : Nat → Int64} {D : Bool} {n : Nat} {r : (Mem)}  : ∀ (fu : Nat) {I : Mem} {v1 : Int32} {v2 : Int32}, f_X8_readNot_2 rc fu I v1 v2 = some r → EndR X cX8_readNot RX8 4 (none) d n none r P O D Q → Here X cX8_readNot RX8 4 (none) d n 2 [some (.inr (.inr (8, 0, 0))), some (.inl v1), some (.inl v2), none] [] I P O D n Q := by
  intro fu
  induction fu with
  | zero => intro I v1 v2 h E; cases h
  | succ fu ih =>
  intro I v1 v2 h E
  have H2 : ∀ (I : Mem) (v1 : Int32) (v2 : Int32), f_X8_readNot_2 rc fu I v1 v2 = some r → Here X cX8_readNot RX8 4 (none) d n 2 [some (.inr (.inr (8, 0, 0))), some (.inl v1), some (.inl v2), none] [] I P O D n Q := fun _ _ _ b => ih b E
  simp only [f_X8_readNot_2] at h
  refine h_aload_n dX8_readNot_2 rfl ?_
  refine h_ldcs (text := "not") (j := 20) dX8_readNot_3 (by decide) ?_
  obtain ⟨y1, hh1, h⟩ := obd_some h
  refine h_cVi [.inr (.inr (90, 20, 0))] (m_X8_is (by decide) hh1) cw_X8_213 dX8_readNot_5 rfl ok_8 (by omega) rfl (Or.inr rfl) rfl ?_
  refine h_if_eq (tgt := 39) dX8_readNot_8 (by decide) (fun q1 => ?_) (fun q1 => ?_)
  · rw [if_pos q1] at h
    refine h_aload_n dX8_readNot_39 rfl ?_
    refine h_iload_n dX8_readNot_40 rfl ?_
    obtain ⟨y2, hh2, h⟩ := obd_some h
    refine h_cVv [.inl v1] (m_X8_readSum (d := d - 1) rc dr Hrc (by omega)  hh2) cw_X8_254 dX8_readNot_41 rfl ok_8 (by omega) rfl (Or.inr rfl) rfl ?_
    refine h_aload_n dX8_readNot_44 rfl ?_
    refine h_bipush (60 : Int32) dX8_readNot_45 k_bipush_60 ?_
    obtain ⟨y3, hh3, h⟩ := obd_some h
    refine h_cVi [.inl (60 : Int32)] (m_X8_isMarked  hh3) cw_X8_217 dX8_readNot_47 rfl ok_8 (by omega) rfl (Or.inr rfl) rfl ?_
    refine h_if_ne (tgt := 62) dX8_readNot_50 (by decide) (fun q2 => ?_) (fun q2 => ?_)
    · rw [if_neg q2] at h
      exact (b_X8_readNot_62 X Q rc dr Hrc hd  h E)
    · rw [if_pos q2] at h
      refine h_aload_n dX8_readNot_53 rfl ?_
      refine h_bipush (61 : Int32) dX8_readNot_54 k_bipush_61 ?_
      obtain ⟨y4, hh4, h⟩ := obd_some h
      refine h_cVi [.inl (61 : Int32)] (m_X8_isMarked  hh4) cw_X8_217 dX8_readNot_56 rfl ok_8 (by omega) rfl (Or.inr rfl) rfl ?_
      refine h_if_eq (tgt := 93) dX8_readNot_59 (by decide) (fun q3 => ?_) (fun q3 => ?_)
      · rw [if_pos q3] at h
        exact h_mask [true, false, true, false] (b_X8_readNot_93 X Q rc dr Hrc hd  h E)
      · rw [if_neg q3] at h
        exact (b_X8_readNot_62 X Q rc dr Hrc hd  h E)
  · rw [if_neg q1] at h
    refine h_iload_n dX8_readNot_11 rfl ?_
    refine h_bipush (6 : Int32) dX8_readNot_12 k_bipush_6 ?_
    refine h_icmp_ne (tgt := 22) dX8_readNot_14 (by decide) (fun q4 => ?_) (fun q4 => ?_)
    · rw [if_neg q4] at h
      exact (b_X8_readNot_22 X Q rc dr Hrc hd H2  h E)
    · rw [if_pos q4] at h
      refine h_aload_n dX8_readNot_17 rfl ?_
      refine h_iconst (2 : Int32) dX8_readNot_18 k_iconst_2 ?_
      obtain ⟨y5, hh5, h⟩ := obd_some h
      refine h_cVv [.inl (2 : Int32)] (m_X8_wrong  hh5) cw_X8_220 dX8_readNot_19 rfl ok_8 (by omega) rfl (Or.inr rfl) rfl ?_
      exact (b_X8_readNot_22 X Q rc dr Hrc hd H2  h E)
def f_X8_readNot (rc : Mem → Int32 → Option (Mem))   (I : Mem) (v1 : Int32) : Option (Mem) :=
  f_X8_readNot_2 rc FU I v1 (0 : Int32)
theorem b_X8_readNot (X : CX) (Q : State → Prop) (rc : Mem → Int32 → Option (Mem)) (dr : Nat) (Hrc : ∀ {I : Mem} {P : PMem} {O : Nat → Int64} {D : Bool} {n : Nat} {v1 : Int32} {r : (Mem)}, rc I v1 = some r → MethR yX8_readExpression cX8_readExpression 3 (none) dr [.inr (.inr (8, 0, 0)), .inl v1] I P O D n none r P O D n) {d : Nat} (hd : dr + 14 ≤ d) {I : Mem} {P : PMem} {O : Nat → Int64} {D : Bool} {n : Nat} {v1 : Int32} {r : (Mem)}  (h : f_X8_readNot rc I v1 = some r) (E : EndR X cX8_readNot RX8 4 (none) d n none r P O D Q) : Here X cX8_readNot RX8 4 (none) d n 0 [some (.inr (.inr (8, 0, 0))), some (.inl v1), none, none] [] I P O D n Q := by
  unfold f_X8_readNot at h
  refine h_iconst (0 : Int32) dX8_readNot_0 k_iconst_0 ?_
  refine h_istore_n dX8_readNot_1 (by decide) rfl ?_
  exact (b_X8_readNot_2 X Q rc dr Hrc hd FU  h E)
theorem m_X8_readNot (rc : Mem → Int32 → Option (Mem)) (dr : Nat) (Hrc : ∀ {I : Mem} {P : PMem} {O : Nat → Int64} {D : Bool} {n : Nat} {v1 : Int32} {r : (Mem)}, rc I v1 = some r → MethR yX8_readExpression cX8_readExpression 3 (none) dr [.inr (.inr (8, 0, 0)), .inl v1] I P O D n none r P O D n) {d : Nat} (hd : dr + 14 ≤ d) {I : Mem} {P : PMem} {O : Nat → Int64} {D : Bool} {n : Nat} {v1 : Int32} {r : (Mem)}  (h : f_X8_readNot rc I v1 = some r) : MethR yX8_readNot cX8_readNot 4 (none) d [.inr (.inr (8, 0, 0)), .inl v1] I P O D n none r P O D n := meth_R (Nat.le_refl _) (by decide) rfl (Nat.le_of_ble_eq_true rfl) rfl (fun X Q E => b_X8_readNot X Q rc dr Hrc hd  h E)
def f_X8_readAnd_5 (rc : Mem → Int32 → Option (Mem))   : Nat → Mem → Int32 → Option (Mem)
  | 0, _, _ => none
  | fu + 1, I, v1 =>
    (f_X8_is I 8).bind fun y1 =>
    if y1 = 0 then (some I) else ((f_X8_stepOn I).bind fun y2 =>
    (f_X8_readNot rc y2 v1).bind fun y3 =>
    (f_X8_lay y3 (-26 : Int32)).bind fun y4 =>
    (f_X8_readAnd_5 rc fu) y4 v1)
theorem b_X8_readAnd_5 (X : CX) (Q : State → Prop) (rc : Mem → Int32 → Option (Mem)) (dr : Nat) (Hrc : ∀ {I : Mem} {P : PMem} {O : Nat → Int64} {D : Bool} {n : Nat} {v1 : Int32} {r : (Mem)}, rc I v1 = some r → MethR yX8_readExpression cX8_readExpression 3 (none) dr [.inr (.inr (8, 0, 0)), .inl v1] I P O D n none r P O D n) {d : Nat} (hd : dr + 15 ≤ d) {P : PMem} {O : Nat → Int64} {D : Bool} {n : Nat} {r : (Mem)}  : ∀ (fu : Nat) {I : Mem} {v1 : Int32}, f_X8_readAnd_5 rc fu I v1 = some r → EndR X cX8_readAnd RX8 2 (none) d n none r P O D Q → Here X cX8_readAnd RX8 2 (none) d n 5 [some (.inr (.inr (8, 0, 0))), some (.inl v1)] [] I P O D n Q := by
  intro fu
  induction fu with
  | zero => intro I v1 h E; cases h
  | succ fu ih =>
  intro I v1 h E
  have H5 : ∀ (I : Mem) (v1 : Int32), f_X8_readAnd_5 rc fu I v1 = some r → Here X cX8_readAnd RX8 2 (none) d n 5 [some (.inr (.inr (8, 0, 0))), some (.inl v1)] [] I P O D n Q := fun _ _ b => ih b E
  simp only [f_X8_readAnd_5] at h
  refine h_aload_n dX8_readAnd_5 rfl ?_
  refine h_ldcws (text := "and") (j := 8) dX8_readAnd_6 (by decide) ?_
  obtain ⟨y1, hh1, h⟩ := obd_some h
  refine h_cVi [.inr (.inr (90, 8, 0))] (m_X8_is (by decide) hh1) cw_X8_213 dX8_readAnd_9 rfl ok_8 (by omega) rfl (Or.inr rfl) rfl ?_
  refine h_if_eq (tgt := 33) dX8_readAnd_12 (by decide) (fun q1 => ?_) (fun q1 => ?_)
  · rw [if_pos q1] at h
    cases h
    exact h_vret dX8_readAnd_33 rfl E
  · rw [if_neg q1] at h
    refine h_aload_n dX8_readAnd_15 rfl ?_
    obtain ⟨y2, hh2, h⟩ := obd_some h
    refine h_cVv [] (m_X8_stepOn  hh2) cw_X8_224 dX8_readAnd_16 rfl ok_8 (by omega) rfl (Or.inr rfl) rfl ?_
    refine h_aload_n dX8_readAnd_19 rfl ?_
    refine h_iload_n dX8_readAnd_20 rfl ?_
    obtain ⟨y3, hh3, h⟩ := obd_some h
    refine h_cVv [.inl v1] (m_X8_readNot (d := d - 1) rc dr Hrc (by omega)  hh3) cw_X8_257 dX8_readAnd_21 rfl ok_8 (by omega) rfl (Or.inr rfl) rfl ?_
    refine h_aload_n dX8_readAnd_24 rfl ?_
    refine h_bipush (-26 : Int32) dX8_readAnd_25 k_bipush_m26 ?_
    obtain ⟨y4, hh4, h⟩ := obd_some h
    refine h_cVv [.inl (-26 : Int32)] (m_X8_lay  hh4) cw_X8_233 dX8_readAnd_27 rfl ok_8 (by omega) rfl (Or.inr rfl) rfl ?_
    refine h_goto (tgt := 5) dX8_readAnd_30 (by decide) ?_
    exact (H5 _ _ h)
def f_X8_readAnd (rc : Mem → Int32 → Option (Mem))   (I : Mem) (v1 : Int32) : Option (Mem) :=
  (f_X8_readNot rc I v1).bind fun y1 =>
  f_X8_readAnd_5 rc FU y1 v1
theorem b_X8_readAnd (X : CX) (Q : State → Prop) (rc : Mem → Int32 → Option (Mem)) (dr : Nat) (Hrc : ∀ {I : Mem} {P : PMem} {O : Nat → Int64} {D : Bool} {n : Nat} {v1 : Int32} {r : (Mem)}, rc I v1 = some r → MethR yX8_readExpression cX8_readExpression 3 (none) dr [.inr (.inr (8, 0, 0)), .inl v1] I P O D n none r P O D n) {d : Nat} (hd : dr + 15 ≤ d) {I : Mem} {P : PMem} {O : Nat → Int64} {D : Bool} {n : Nat} {v1 : Int32} {r : (Mem)}  (h : f_X8_readAnd rc I v1 = some r) (E : EndR X cX8_readAnd RX8 2 (none) d n none r P O D Q) : Here X cX8_readAnd RX8 2 (none) d n 0 [some (.inr (.inr (8, 0, 0))), some (.inl v1)] [] I P O D n Q := by
  unfold f_X8_readAnd at h
  refine h_aload_n dX8_readAnd_0 rfl ?_
  refine h_iload_n dX8_readAnd_1 rfl ?_
  obtain ⟨y1, hh1, h⟩ := obd_some h
  refine h_cVv [.inl v1] (m_X8_readNot (d := d - 1) rc dr Hrc (by omega)  hh1) cw_X8_257 dX8_readAnd_2 rfl ok_8 (by omega) rfl (Or.inr rfl) rfl ?_
  exact (b_X8_readAnd_5 X Q rc dr Hrc hd FU  h E)
theorem m_X8_readAnd (rc : Mem → Int32 → Option (Mem)) (dr : Nat) (Hrc : ∀ {I : Mem} {P : PMem} {O : Nat → Int64} {D : Bool} {n : Nat} {v1 : Int32} {r : (Mem)}, rc I v1 = some r → MethR yX8_readExpression cX8_readExpression 3 (none) dr [.inr (.inr (8, 0, 0)), .inl v1] I P O D n none r P O D n) {d : Nat} (hd : dr + 15 ≤ d) {I : Mem} {P : PMem} {O : Nat → Int64} {D : Bool} {n : Nat} {v1 : Int32} {r : (Mem)}  (h : f_X8_readAnd rc I v1 = some r) : MethR yX8_readAnd cX8_readAnd 2 (none) d [.inr (.inr (8, 0, 0)), .inl v1] I P O D n none r P O D n := meth_R (Nat.le_refl _) (by decide) rfl (Nat.le_of_ble_eq_true rfl) rfl (fun X Q E => b_X8_readAnd X Q rc dr Hrc hd  h E)
def f_X8_readExpression_67 (rc : Mem → Int32 → Option (Mem))   : Nat → Mem → Int32 → Option (Mem)
  | 0, _, _ => none
  | fu + 1, I, v1 =>
    (f_X8_is I 22).bind fun y1 =>
    if y1 = 0 then (some I) else ((f_X8_stepOn I).bind fun y2 =>
    (f_X8_readAnd rc y2 v1).bind fun y3 =>
    (f_X8_lay y3 (-27 : Int32)).bind fun y4 =>
    (f_X8_readExpression_67 rc fu) y4 v1)
theorem b_X8_readExpression_67 (X : CX) (Q : State → Prop) (rc : Mem → Int32 → Option (Mem)) (dr : Nat) (Hrc : ∀ {I : Mem} {P : PMem} {O : Nat → Int64} {D : Bool} {n : Nat} {v1 : Int32} {r : (Mem)}, rc I v1 = some r → MethR yX8_readExpression cX8_readExpression 3 (none) dr [.inr (.inr (8, 0, 0)), .inl v1] I P O D n none r P O D n) {d : Nat} (hd : dr + 16 ≤ d) {P : PMem} {O : Nat → Int64} {D : Bool} {n : Nat} {r : (Mem)}  : ∀ (fu : Nat) {I : Mem} {v1 : Int32}, f_X8_readExpression_67 rc fu I v1 = some r → EndR X cX8_readExpression RX8 3 (none) d n none r P O D Q → Here X cX8_readExpression RX8 3 (none) d n 67 [some (.inr (.inr (8, 0, 0))), some (.inl v1), none] [] I P O D n Q := by
  intro fu
  induction fu with
  | zero => intro I v1 h E; cases h
  | succ fu ih =>
  intro I v1 h E
  have H67 : ∀ (I : Mem) (v1 : Int32), f_X8_readExpression_67 rc fu I v1 = some r → Here X cX8_readExpression RX8 3 (none) d n 67 [some (.inr (.inr (8, 0, 0))), some (.inl v1), none] [] I P O D n Q := fun _ _ b => ih b E
  simp only [f_X8_readExpression_67] at h
  refine h_aload_n dX8_readExpression_67 rfl ?_
  refine h_ldcws (text := "or") (j := 22) dX8_readExpression_68 (by decide) ?_
  obtain ⟨y1, hh1, h⟩ := obd_some h
  refine h_cVi [.inr (.inr (90, 22, 0))] (m_X8_is (by decide) hh1) cw_X8_213 dX8_readExpression_71 rfl ok_8 (by omega) rfl (Or.inr rfl) rfl ?_
  refine h_if_eq (tgt := 95) dX8_readExpression_74 (by decide) (fun q1 => ?_) (fun q1 => ?_)
  · rw [if_pos q1] at h
    cases h
    exact h_vret dX8_readExpression_95 rfl E
  · rw [if_neg q1] at h
    refine h_aload_n dX8_readExpression_77 rfl ?_
    obtain ⟨y2, hh2, h⟩ := obd_some h
    refine h_cVv [] (m_X8_stepOn  hh2) cw_X8_224 dX8_readExpression_78 rfl ok_8 (by omega) rfl (Or.inr rfl) rfl ?_
    refine h_aload_n dX8_readExpression_81 rfl ?_
    refine h_iload_n dX8_readExpression_82 rfl ?_
    obtain ⟨y3, hh3, h⟩ := obd_some h
    refine h_cVv [.inl v1] (m_X8_readAnd (d := d - 1) rc dr Hrc (by omega)  hh3) cw_X8_262 dX8_readExpression_83 rfl ok_8 (by omega) rfl (Or.inr rfl) rfl ?_
    refine h_aload_n dX8_readExpression_86 rfl ?_
    refine h_bipush (-27 : Int32) dX8_readExpression_87 k_bipush_m27 ?_
    obtain ⟨y4, hh4, h⟩ := obd_some h
    refine h_cVv [.inl (-27 : Int32)] (m_X8_lay  hh4) cw_X8_233 dX8_readExpression_89 rfl ok_8 (by omega) rfl (Or.inr rfl) rfl ?_
    refine h_goto (tgt := 67) dX8_readExpression_92 (by decide) ?_
    exact (H67 _ _ h)
def f_X8_readExpression_62 (rc : Mem → Int32 → Option (Mem))   (I : Mem) (v1 : Int32) : Option (Mem) :=
  (f_X8_readAnd rc I v1).bind fun y1 =>
  f_X8_readExpression_67 rc FU y1 v1
theorem b_X8_readExpression_62 (X : CX) (Q : State → Prop) (rc : Mem → Int32 → Option (Mem)) (dr : Nat) (Hrc : ∀ {I : Mem} {P : PMem} {O : Nat → Int64} {D : Bool} {n : Nat} {v1 : Int32} {r : (Mem)}, rc I v1 = some r → MethR yX8_readExpression cX8_readExpression 3 (none) dr [.inr (.inr (8, 0, 0)), .inl v1] I P O D n none r P O D n) {d : Nat} (hd : dr + 16 ≤ d) {I : Mem} {P : PMem} {O : Nat → Int64} {D : Bool} {n : Nat} {v1 : Int32} {r : (Mem)}  (h : f_X8_readExpression_62 rc I v1 = some r) (E : EndR X cX8_readExpression RX8 3 (none) d n none r P O D Q) : Here X cX8_readExpression RX8 3 (none) d n 62 [some (.inr (.inr (8, 0, 0))), some (.inl v1), none] [] I P O D n Q := by
  unfold f_X8_readExpression_62 at h
  refine h_aload_n dX8_readExpression_62 rfl ?_
  refine h_iload_n dX8_readExpression_63 rfl ?_
  obtain ⟨y1, hh1, h⟩ := obd_some h
  refine h_cVv [.inl v1] (m_X8_readAnd (d := d - 1) rc dr Hrc (by omega)  hh1) cw_X8_262 dX8_readExpression_64 rfl ok_8 (by omega) rfl (Or.inr rfl) rfl ?_
  exact (b_X8_readExpression_67 X Q rc dr Hrc hd FU  h E)
def f_X8_readExpression_38 (rc : Mem → Int32 → Option (Mem))   (I : Mem) (v1 : Int32) (s0 : Int32) : Option (Mem) :=
  if s0 = 0 then ((f_X8_wrong I (1 : Int32)).bind fun y2 =>
  f_X8_readExpression_62 rc y2 v1) else (if v1 = (6 : Int32) then ((f_X8_wrong I (2 : Int32)).bind fun y1 =>
  f_X8_readExpression_62 rc y1 v1) else (f_X8_readExpression_62 rc I v1))
theorem b_X8_readExpression_38 (X : CX) (Q : State → Prop) (rc : Mem → Int32 → Option (Mem)) (dr : Nat) (Hrc : ∀ {I : Mem} {P : PMem} {O : Nat → Int64} {D : Bool} {n : Nat} {v1 : Int32} {r : (Mem)}, rc I v1 = some r → MethR yX8_readExpression cX8_readExpression 3 (none) dr [.inr (.inr (8, 0, 0)), .inl v1] I P O D n none r P O D n) {d : Nat} (hd : dr + 16 ≤ d) {I : Mem} {P : PMem} {O : Nat → Int64} {D : Bool} {n : Nat} {v1 : Int32} {s0 : Int32} {r : (Mem)}  (h : f_X8_readExpression_38 rc I v1 s0 = some r) (E : EndR X cX8_readExpression RX8 3 (none) d n none r P O D Q) : Here X cX8_readExpression RX8 3 (none) d n 38 [some (.inr (.inr (8, 0, 0))), some (.inl v1), none] [.inl s0] I P O D n Q := by
  unfold f_X8_readExpression_38 at h
  refine h_istore_n dX8_readExpression_38 (by decide) rfl ?_
  refine h_iload_n dX8_readExpression_39 rfl ?_
  refine h_if_ne (tgt := 51) dX8_readExpression_40 (by decide) (fun q1 => ?_) (fun q1 => ?_)
  · rw [if_neg q1] at h
    refine h_iload_n dX8_readExpression_51 rfl ?_
    refine h_bipush (6 : Int32) dX8_readExpression_52 k_bipush_6 ?_
    refine h_icmp_ne (tgt := 62) dX8_readExpression_54 (by decide) (fun q2 => ?_) (fun q2 => ?_)
    · rw [if_neg q2] at h
      exact h_mask [true, true, false] (b_X8_readExpression_62 X Q rc dr Hrc hd  h E)
    · rw [if_pos q2] at h
      refine h_aload_n dX8_readExpression_57 rfl ?_
      refine h_iconst (2 : Int32) dX8_readExpression_58 k_iconst_2 ?_
      obtain ⟨y1, hh1, h⟩ := obd_some h
      refine h_cVv [.inl (2 : Int32)] (m_X8_wrong  hh1) cw_X8_220 dX8_readExpression_59 rfl ok_8 (by omega) rfl (Or.inr rfl) rfl ?_
      exact h_mask [true, true, false] (b_X8_readExpression_62 X Q rc dr Hrc hd  h E)
  · rw [if_pos q1] at h
    refine h_aload_n dX8_readExpression_43 rfl ?_
    refine h_iconst (1 : Int32) dX8_readExpression_44 k_iconst_1 ?_
    obtain ⟨y2, hh2, h⟩ := obd_some h
    refine h_cVv [.inl (1 : Int32)] (m_X8_wrong  hh2) cw_X8_220 dX8_readExpression_45 rfl ok_8 (by omega) rfl (Or.inr rfl) rfl ?_
    refine h_goto (tgt := 62) dX8_readExpression_48 (by decide) ?_
    exact h_mask [true, true, false] (b_X8_readExpression_62 X Q rc dr Hrc hd  h E)
def f_X8_readExpression_33 (rc : Mem → Int32 → Option (Mem))   (I : Mem) (v1 : Int32) : Option (Mem) :=
  f_X8_readExpression_38 rc I v1 (1 : Int32)
theorem b_X8_readExpression_33 (X : CX) (Q : State → Prop) (rc : Mem → Int32 → Option (Mem)) (dr : Nat) (Hrc : ∀ {I : Mem} {P : PMem} {O : Nat → Int64} {D : Bool} {n : Nat} {v1 : Int32} {r : (Mem)}, rc I v1 = some r → MethR yX8_readExpression cX8_readExpression 3 (none) dr [.inr (.inr (8, 0, 0)), .inl v1] I P O D n none r P O D n) {d : Nat} (hd : dr + 16 ≤ d) {I : Mem} {P : PMem} {O : Nat → Int64} {D : Bool} {n : Nat} {v1 : Int32} {r : (Mem)}  (h : f_X8_readExpression_33 rc I v1 = some r) (E : EndR X cX8_readExpression RX8 3 (none) d n none r P O D Q) : Here X cX8_readExpression RX8 3 (none) d n 33 [some (.inr (.inr (8, 0, 0))), some (.inl v1), none] [] I P O D n Q := by
  unfold f_X8_readExpression_33 at h
  refine h_iconst (1 : Int32) dX8_readExpression_33 k_iconst_1 ?_
  refine h_goto (tgt := 38) dX8_readExpression_34 (by decide) ?_
  exact (b_X8_readExpression_38 X Q rc dr Hrc hd  h E)
def f_X8_readExpression (rc : Mem → Int32 → Option (Mem))   (I : Mem) (v1 : Int32) : Option (Mem) :=
  if (I 8 0 0 21) = 0 then (if (I 8 0 0 17) = (2 : Int32) then (f_X8_readExpression_33 rc I v1) else (if (I 8 0 0 17) = (1 : Int32) then (f_X8_readExpression_33 rc I v1) else ((f_X8_isMarked I (40 : Int32)).bind fun y1 =>
  if y1 = 0 then (f_X8_readExpression_38 rc I v1 (0 : Int32)) else (f_X8_readExpression_33 rc I v1)))) else (some I)
theorem b_X8_readExpression (X : CX) (Q : State → Prop) (rc : Mem → Int32 → Option (Mem)) (dr : Nat) (Hrc : ∀ {I : Mem} {P : PMem} {O : Nat → Int64} {D : Bool} {n : Nat} {v1 : Int32} {r : (Mem)}, rc I v1 = some r → MethR yX8_readExpression cX8_readExpression 3 (none) dr [.inr (.inr (8, 0, 0)), .inl v1] I P O D n none r P O D n) {d : Nat} (hd : dr + 16 ≤ d) {I : Mem} {P : PMem} {O : Nat → Int64} {D : Bool} {n : Nat} {v1 : Int32} {r : (Mem)}  (h : f_X8_readExpression rc I v1 = some r) (E : EndR X cX8_readExpression RX8 3 (none) d n none r P O D Q) : Here X cX8_readExpression RX8 3 (none) d n 0 [some (.inr (.inr (8, 0, 0))), some (.inl v1), none] [] I P O D n Q := by
  unfold f_X8_readExpression at h
  refine h_aload_n dX8_readExpression_0 rfl ?_
  refine g_X8_199  dX8_readExpression_1 ?_
  refine h_if_eq (tgt := 8) dX8_readExpression_4 (by decide) (fun q1 => ?_) (fun q1 => ?_)
  · rw [if_pos q1] at h
    refine h_aload_n dX8_readExpression_8 rfl ?_
    refine g_X8_173  dX8_readExpression_9 ?_
    refine h_iconst (2 : Int32) dX8_readExpression_12 k_iconst_2 ?_
    refine h_icmp_eq (tgt := 33) dX8_readExpression_13 (by decide) (fun q2 => ?_) (fun q2 => ?_)
    · rw [if_pos q2] at h
      exact (b_X8_readExpression_33 X Q rc dr Hrc hd  h E)
    · rw [if_neg q2] at h
      refine h_aload_n dX8_readExpression_16 rfl ?_
      refine g_X8_173  dX8_readExpression_17 ?_
      refine h_iconst (1 : Int32) dX8_readExpression_20 k_iconst_1 ?_
      refine h_icmp_eq (tgt := 33) dX8_readExpression_21 (by decide) (fun q3 => ?_) (fun q3 => ?_)
      · rw [if_pos q3] at h
        exact (b_X8_readExpression_33 X Q rc dr Hrc hd  h E)
      · rw [if_neg q3] at h
        refine h_aload_n dX8_readExpression_24 rfl ?_
        refine h_bipush (40 : Int32) dX8_readExpression_25 k_bipush_40 ?_
        obtain ⟨y1, hh1, h⟩ := obd_some h
        refine h_cVi [.inl (40 : Int32)] (m_X8_isMarked  hh1) cw_X8_217 dX8_readExpression_27 rfl ok_8 (by omega) rfl (Or.inr rfl) rfl ?_
        refine h_if_eq (tgt := 37) dX8_readExpression_30 (by decide) (fun q4 => ?_) (fun q4 => ?_)
        · rw [if_pos q4] at h
          refine h_iconst (0 : Int32) dX8_readExpression_37 k_iconst_0 ?_
          exact (b_X8_readExpression_38 X Q rc dr Hrc hd  h E)
        · rw [if_neg q4] at h
          exact (b_X8_readExpression_33 X Q rc dr Hrc hd  h E)
  · rw [if_neg q1] at h
    cases h
    exact h_vret dX8_readExpression_7 rfl E
theorem m_X8_readExpression (rc : Mem → Int32 → Option (Mem)) (dr : Nat) (Hrc : ∀ {I : Mem} {P : PMem} {O : Nat → Int64} {D : Bool} {n : Nat} {v1 : Int32} {r : (Mem)}, rc I v1 = some r → MethR yX8_readExpression cX8_readExpression 3 (none) dr [.inr (.inr (8, 0, 0)), .inl v1] I P O D n none r P O D n) {d : Nat} (hd : dr + 16 ≤ d) {I : Mem} {P : PMem} {O : Nat → Int64} {D : Bool} {n : Nat} {v1 : Int32} {r : (Mem)}  (h : f_X8_readExpression rc I v1 = some r) : MethR yX8_readExpression cX8_readExpression 3 (none) d [.inr (.inr (8, 0, 0)), .inl v1] I P O D n none r P O D n := meth_R (Nat.le_refl _) (by decide) rfl (Nat.le_of_ble_eq_true rfl) rfl (fun X Q E => b_X8_readExpression X Q rc dr Hrc hd  h E)
def F_X8_readExpression : Nat → Mem → Int32 → Option (Mem)
  | 0, _, _ => none
  | k + 1, I, v1 => f_X8_readExpression (F_X8_readExpression k) I v1
theorem mF_X8_readExpression : ∀ (k : Nat) {I : Mem} {P : PMem} {O : Nat → Int64} {D : Bool} {n : Nat} {v1 : Int32} {r : (Mem)}, F_X8_readExpression k I v1 = some r → MethR yX8_readExpression cX8_readExpression 3 (none) (20 * k) [.inr (.inr (8, 0, 0)), .inl v1] I P O D n none r P O D n := by
  intro k
  induction k with
  | zero => intro I P O D n v1 r h; cases h
  | succ k ih => intro I P O D n v1 r h; exact m_X8_readExpression (F_X8_readExpression k) (20 * k) ih (by omega) h
def f_X8_another_18   (I : Mem) : Option (Int32 × Mem) :=
  if (I 8 0 0 21) = 0 then ((f_X8_stepOn I).bind fun y1 =>
  some ((1 : Int32), y1)) else (some ((0 : Int32), I))
theorem b_X8_another_18 (X : CX) (Q : State → Prop) {I : Mem} {P : PMem} {O : Nat → Int64} {D : Bool} {n : Nat} {r : (Int32 × Mem)}  (h : f_X8_another_18 I = some r) (E : EndR X cX8_another RX8 3 (some .boolean) 4 n (some (.inl r.1)) r.2 P O D Q) : Here X cX8_another RX8 3 (some .boolean) 4 n 18 [some (.inr (.inr (8, 0, 0))), none, none] [] I P O D n Q := by
  unfold f_X8_another_18 at h
  refine h_aload_n dX8_another_18 rfl ?_
  refine g_X8_199  dX8_another_19 ?_
  refine h_if_eq (tgt := 27) dX8_another_22 (by decide) (fun q1 => ?_) (fun q1 => ?_)
  · rw [if_pos q1] at h
    refine h_aload_n dX8_another_27 rfl ?_
    obtain ⟨y1, hh1, h⟩ := obd_some h
    refine h_cVv [] (m_X8_stepOn  hh1) cw_X8_224 dX8_another_28 rfl ok_8 (by decide) rfl (Or.inr rfl) rfl ?_
    refine h_iconst (1 : Int32) dX8_another_31 k_iconst_1 ?_
    cases h
    exact h_zret dX8_another_32 rfl rfl E
  · rw [if_neg q1] at h
    refine h_iconst (0 : Int32) dX8_another_25 k_iconst_0 ?_
    cases h
    exact h_zret dX8_another_26 rfl rfl E
def f_X8_another   (I : Mem) (v1 : Int32) (v2 : Int32) : Option (Int32 × Mem) :=
  gd (inb ((7 : Int32) + v1) 14) <|
  if (I 50 0 0 (((7 : Int32) + v1).toNatClampNeg)) = v2 then ((f_X8_wrong I (2 : Int32)).bind fun y1 =>
  f_X8_another_18 y1) else (f_X8_another_18 I)
theorem b_X8_another (X : CX) (Q : State → Prop) {I : Mem} {P : PMem} {O : Nat → Int64} {D : Bool} {n : Nat} {v1 : Int32} {v2 : Int32} {r : (Int32 × Mem)}  (h : f_X8_another I v1 v2 = some r) (E : EndR X cX8_another RX8 3 (some .boolean) 4 n (some (.inl r.1)) r.2 P O D Q) : Here X cX8_another RX8 3 (some .boolean) 4 n 0 [some (.inr (.inr (8, 0, 0))), some (.inl v1), some (.inl v2)] [] I P O D n Q := by
  unfold f_X8_another at h
  refine h_aload_n dX8_another_0 rfl ?_
  refine g_X8_34  dX8_another_1 ?_
  refine h_bipush (7 : Int32) dX8_another_4 k_bipush_7 ?_
  refine h_iload_n dX8_another_6 rfl ?_
  refine h_iadd dX8_another_7 ?_
  obtain ⟨g1, h⟩ := gd_some h
  refine al_50  (((7 : Int32) + v1).toNatClampNeg) rfl dX8_another_8 g1 ?_
  refine h_iload_n dX8_another_9 rfl ?_
  refine h_icmp_ne (tgt := 18) dX8_another_10 (by decide) (fun q1 => ?_) (fun q1 => ?_)
  · rw [if_neg q1] at h
    exact h_mask [true, false, false] (b_X8_another_18 X Q  h E)
  · rw [if_pos q1] at h
    refine h_aload_n dX8_another_13 rfl ?_
    refine h_iconst (2 : Int32) dX8_another_14 k_iconst_2 ?_
    obtain ⟨y1, hh1, h⟩ := obd_some h
    refine h_cVv [.inl (2 : Int32)] (m_X8_wrong  hh1) cw_X8_220 dX8_another_15 rfl ok_8 (by decide) rfl (Or.inr rfl) rfl ?_
    exact h_mask [true, false, false] (b_X8_another_18 X Q  h E)
theorem m_X8_another {I : Mem} {P : PMem} {O : Nat → Int64} {D : Bool} {n : Nat} {v1 : Int32} {v2 : Int32} {r : (Int32 × Mem)}  (h : f_X8_another I v1 v2 = some r) : MethR yX8_another cX8_another 3 (some .boolean) 4 [.inr (.inr (8, 0, 0)), .inl v1, .inl v2] I P O D n (some (.inl r.1)) r.2 P O D n := meth_R (Nat.le_refl _) (by decide) rfl (Nat.le_of_ble_eq_true rfl) rfl (fun X Q E => b_X8_another X Q  h E)
def f_X8_readTown_44   (I : Mem) : Option (Mem) :=
  bnd (upd4 I 50 0 0 7 ((I 50 0 0 7) + (1 : Int32))) fun I1' =>
  some I1'
theorem b_X8_readTown_44 (X : CX) (Q : State → Prop) {I : Mem} {P : PMem} {O : Nat → Int64} {D : Bool} {n : Nat} {r : (Mem)}  (h : f_X8_readTown_44 I = some r) (E : EndR X cX8_readTown RX8 1 (none) 10 n none r P O D Q) : Here X cX8_readTown RX8 1 (none) 10 n 44 [some (.inr (.inr (8, 0, 0)))] [] I P O D n Q := by
  unfold f_X8_readTown_44 at h
  refine h_aload_n dX8_readTown_44 rfl ?_
  refine g_X8_34  dX8_readTown_45 ?_
  refine h_bipush (7 : Int32) dX8_readTown_48 k_bipush_7 ?_
  refine h_dup2 dX8_readTown_50 (fun _ => rfl) (fun _ => rfl) ?_
  refine al_50  7 cl_7 dX8_readTown_51 rfl ?_
  refine h_iconst (1 : Int32) dX8_readTown_52 k_iconst_1 ?_
  refine h_iadd dX8_readTown_53 ?_
  obtain ⟨I1', e1, h⟩ := bnd_some h
  refine as_50  7 cl_7 dX8_readTown_54 rfl ?_
  refine h_nmI e1 ?_
  cases h
  exact h_vret dX8_readTown_55 rfl E
def f_X8_readTown   (I : Mem) : Option (Mem) :=
  (f_X8_another I (0 : Int32) (9 : Int32)).bind fun y1 =>
  if y1.1 = 0 then (some y1.2) else ((f_X8_is y1.2 12).bind fun y2 =>
  if y2 = 0 then (f_X8_readTown_44 y1.2) else (bnd (upd4 y1.2 50 0 0 8 ((y1.2 50 0 0 8) ||| (jshl (1 : Int32) (y1.2 50 0 0 7)))) fun I1' =>
  (f_X8_stepOn I1').bind fun y3 =>
  f_X8_readTown_44 y3))
theorem b_X8_readTown (X : CX) (Q : State → Prop) {I : Mem} {P : PMem} {O : Nat → Int64} {D : Bool} {n : Nat} {r : (Mem)}  (h : f_X8_readTown I = some r) (E : EndR X cX8_readTown RX8 1 (none) 10 n none r P O D Q) : Here X cX8_readTown RX8 1 (none) 10 n 0 [some (.inr (.inr (8, 0, 0)))] [] I P O D n Q := by
  unfold f_X8_readTown at h
  refine h_aload_n dX8_readTown_0 rfl ?_
  refine h_iconst (0 : Int32) dX8_readTown_1 k_iconst_0 ?_
  refine h_bipush (9 : Int32) dX8_readTown_2 k_bipush_9 ?_
  obtain ⟨y1, hh1, h⟩ := obd_some h
  refine h_cVi [.inl (0 : Int32), .inl (9 : Int32)] (m_X8_another  hh1) cw_X8_267 dX8_readTown_4 rfl ok_8 (by decide) rfl (Or.inr rfl) rfl ?_
  refine h_if_ne (tgt := 11) dX8_readTown_7 (by decide) (fun q1 => ?_) (fun q1 => ?_)
  · rw [if_neg q1] at h
    refine h_aload_n dX8_readTown_11 rfl ?_
    refine h_ldcws (text := "inn") (j := 12) dX8_readTown_12 (by decide) ?_
    obtain ⟨y2, hh2, h⟩ := obd_some h
    refine h_cVi [.inr (.inr (90, 12, 0))] (m_X8_is (by decide) hh2) cw_X8_213 dX8_readTown_15 rfl ok_8 (by decide) rfl (Or.inr rfl) rfl ?_
    refine h_if_eq (tgt := 44) dX8_readTown_18 (by decide) (fun q2 => ?_) (fun q2 => ?_)
    · rw [if_pos q2] at h
      exact (b_X8_readTown_44 X Q  h E)
    · rw [if_neg q2] at h
      refine h_aload_n dX8_readTown_21 rfl ?_
      refine g_X8_34  dX8_readTown_22 ?_
      refine h_bipush (8 : Int32) dX8_readTown_25 k_bipush_8 ?_
      refine h_dup2 dX8_readTown_27 (fun _ => rfl) (fun _ => rfl) ?_
      refine al_50  8 cl_8 dX8_readTown_28 rfl ?_
      refine h_iconst (1 : Int32) dX8_readTown_29 k_iconst_1 ?_
      refine h_aload_n dX8_readTown_30 rfl ?_
      refine g_X8_34  dX8_readTown_31 ?_
      refine h_bipush (7 : Int32) dX8_readTown_34 k_bipush_7 ?_
      refine al_50  7 cl_7 dX8_readTown_36 rfl ?_
      refine h_shl dX8_readTown_37 ?_
      refine h_ior dX8_readTown_38 ?_
      obtain ⟨I1', e1, h⟩ := bnd_some h
      refine as_50  8 cl_8 dX8_readTown_39 rfl ?_
      refine h_nmI e1 ?_
      refine h_aload_n dX8_readTown_40 rfl ?_
      obtain ⟨y3, hh3, h⟩ := obd_some h
      refine h_cVv [] (m_X8_stepOn  hh3) cw_X8_224 dX8_readTown_41 rfl ok_8 (by decide) rfl (Or.inr rfl) rfl ?_
      exact (b_X8_readTown_44 X Q  h E)
  · rw [if_pos q1] at h
    cases h
    exact h_vret dX8_readTown_10 rfl E
theorem m_X8_readTown {I : Mem} {P : PMem} {O : Nat → Int64} {D : Bool} {n : Nat}  {r : (Mem)}  (h : f_X8_readTown I = some r) : MethR yX8_readTown cX8_readTown 1 (none) 10 [.inr (.inr (8, 0, 0))] I P O D n none r P O D n := meth_R (Nat.le_refl _) (by decide) rfl (Nat.le_of_ble_eq_true rfl) rfl (fun X Q E => b_X8_readTown X Q  h E)
def f_X8_couple  (I : Mem) (v0 : Int32) (v1 : Int32) : Option (Int32) :=
  some (((9 : Int32) * v0) + v1)
theorem b_X8_couple (X : CX) (Q : State → Prop) {I : Mem} {P : PMem} {O : Nat → Int64} {D : Bool} {n : Nat} {v0 : Int32} {v1 : Int32} {r : (Int32)}  (h : f_X8_couple I v0 v1 = some r) (E : EndR X cX8_couple RX8 2 (some .int) 2 n (some (.inl r)) I P O D Q) : Here X cX8_couple RX8 2 (some .int) 2 n 0 [some (.inl v0), some (.inl v1)] [] I P O D n Q := by
  unfold f_X8_couple at h
  refine h_bipush (9 : Int32) dX8_couple_0 k_bipush_9 ?_
  refine h_iload_n dX8_couple_2 rfl ?_
  refine h_imul dX8_couple_3 ?_
  refine h_iload_n dX8_couple_4 rfl ?_
  refine h_iadd dX8_couple_5 ?_
  cases h
  exact h_iret dX8_couple_6 rfl E
theorem m_X8_couple {I : Mem} {P : PMem} {O : Nat → Int64} {D : Bool} {n : Nat} {v0 : Int32} {v1 : Int32} {r : (Int32)}  (h : f_X8_couple I v0 v1 = some r) : MethR yX8_couple cX8_couple 2 (some .int) 2 [.inl v0, .inl v1] I P O D n (some (.inl r)) I P O D n := meth_R (Nat.le_refl _) (by decide) rfl (Nat.le_of_ble_eq_true rfl) rfl (fun X Q E => b_X8_couple X Q  h E)
def f_X8_readRoad_78   (I : Mem) (v1 : Int32) (v2 : Int32) (v3 : Int32) : Option (Mem) :=
  (f_X8_readNumber I (1 : Int32) (9 : Int32)).bind fun y1 =>
  if (y1.2 8 0 0 21) = 0 then ((f_X8_couple y1.2 v1 v2).bind fun y2 =>
  gd (inb (v3 + y2) 162) <|
  bnd (upd4 y1.2 51 0 0 ((v3 + y2).toNatClampNeg) y1.1) fun I1' =>
  (f_X8_couple I1' v2 v1).bind fun y3 =>
  gd (inb (v3 + y3) 162) <|
  bnd (upd4 I1' 51 0 0 ((v3 + y3).toNatClampNeg) y1.1) fun I2' =>
  bnd (upd4 I2' 50 0 0 9 ((I2' 50 0 0 9) + (1 : Int32))) fun I3' =>
  some I3') else (some y1.2)
theorem b_X8_readRoad_78 (X : CX) (Q : State → Prop) {I : Mem} {P : PMem} {O : Nat → Int64} {D : Bool} {n : Nat} {v1 : Int32} {v2 : Int32} {v3 : Int32} {r : (Mem)}  (h : f_X8_readRoad_78 I v1 v2 v3 = some r) (E : EndR X cX8_readRoad RX8 5 (none) 5 n none r P O D Q) : Here X cX8_readRoad RX8 5 (none) 5 n 78 [some (.inr (.inr (8, 0, 0))), some (.inl v1), some (.inl v2), some (.inl v3), none] [] I P O D n Q := by
  unfold f_X8_readRoad_78 at h
  refine h_aload_n dX8_readRoad_78 rfl ?_
  refine h_iconst (1 : Int32) dX8_readRoad_79 k_iconst_1 ?_
  refine h_bipush (9 : Int32) dX8_readRoad_80 k_bipush_9 ?_
  obtain ⟨y1, hh1, h⟩ := obd_some h
  refine h_cVi [.inl (1 : Int32), .inl (9 : Int32)] (m_X8_readNumber  hh1) cw_X8_230 dX8_readRoad_82 rfl ok_8 (by decide) rfl (Or.inr rfl) rfl ?_
  refine h_istore dX8_readRoad_85 (by decide) rfl ?_
  refine h_aload_n dX8_readRoad_87 rfl ?_
  refine g_X8_199  dX8_readRoad_88 ?_
  refine h_if_eq (tgt := 95) dX8_readRoad_91 (by decide) (fun q1 => ?_) (fun q1 => ?_)
  · rw [if_pos q1] at h
    refine h_aload_n dX8_readRoad_95 rfl ?_
    refine g_X8_38  dX8_readRoad_96 ?_
    refine h_iload_n dX8_readRoad_99 rfl ?_
    refine h_iload_n dX8_readRoad_100 rfl ?_
    refine h_iload_n dX8_readRoad_101 rfl ?_
    obtain ⟨y2, hh2, h⟩ := obd_some h
    refine h_cSi [.inl v1, .inl v2] (m_X8_couple  hh2) cs_X8_276 dX8_readRoad_102 rfl (by decide) rfl (Or.inr rfl) rfl ?_
    refine h_iadd dX8_readRoad_105 ?_
    refine h_iload dX8_readRoad_106 rfl ?_
    obtain ⟨g1, h⟩ := gd_some h
    obtain ⟨I1', e1, h⟩ := bnd_some h
    refine as_51  ((v3 + y2).toNatClampNeg) rfl dX8_readRoad_108 g1 ?_
    refine h_nmI e1 ?_
    refine h_aload_n dX8_readRoad_109 rfl ?_
    refine g_X8_38  dX8_readRoad_110 ?_
    refine h_iload_n dX8_readRoad_113 rfl ?_
    refine h_iload_n dX8_readRoad_114 rfl ?_
    refine h_iload_n dX8_readRoad_115 rfl ?_
    obtain ⟨y3, hh3, h⟩ := obd_some h
    refine h_cSi [.inl v2, .inl v1] (m_X8_couple  hh3) cs_X8_276 dX8_readRoad_116 rfl (by decide) rfl (Or.inr rfl) rfl ?_
    refine h_iadd dX8_readRoad_119 ?_
    refine h_iload dX8_readRoad_120 rfl ?_
    obtain ⟨g2, h⟩ := gd_some h
    obtain ⟨I2', e2, h⟩ := bnd_some h
    refine as_51  ((v3 + y3).toNatClampNeg) rfl dX8_readRoad_122 g2 ?_
    refine h_nmI e2 ?_
    refine h_aload_n dX8_readRoad_123 rfl ?_
    refine g_X8_34  dX8_readRoad_124 ?_
    refine h_bipush (9 : Int32) dX8_readRoad_127 k_bipush_9 ?_
    refine h_dup2 dX8_readRoad_129 (fun _ => rfl) (fun _ => rfl) ?_
    refine al_50  9 cl_9 dX8_readRoad_130 rfl ?_
    refine h_iconst (1 : Int32) dX8_readRoad_131 k_iconst_1 ?_
    refine h_iadd dX8_readRoad_132 ?_
    obtain ⟨I3', e3, h⟩ := bnd_some h
    refine as_50  9 cl_9 dX8_readRoad_133 rfl ?_
    refine h_nmI e3 ?_
    cases h
    exact h_vret dX8_readRoad_134 rfl E
  · rw [if_neg q1] at h
    cases h
    exact h_vret dX8_readRoad_94 rfl E
def f_X8_readRoad_67   (I : Mem) (v1 : Int32) (v2 : Int32) (v3 : Int32) : Option (Mem) :=
  if (I 8 0 0 21) = 0 then ((f_X8_stepOn I).bind fun y1 =>
  f_X8_readRoad_78 y1 v1 v2 v3) else (f_X8_readRoad_78 I v1 v2 v3)
theorem b_X8_readRoad_67 (X : CX) (Q : State → Prop) {I : Mem} {P : PMem} {O : Nat → Int64} {D : Bool} {n : Nat} {v1 : Int32} {v2 : Int32} {v3 : Int32} {r : (Mem)}  (h : f_X8_readRoad_67 I v1 v2 v3 = some r) (E : EndR X cX8_readRoad RX8 5 (none) 5 n none r P O D Q) : Here X cX8_readRoad RX8 5 (none) 5 n 67 [some (.inr (.inr (8, 0, 0))), some (.inl v1), some (.inl v2), some (.inl v3), none] [] I P O D n Q := by
  unfold f_X8_readRoad_67 at h
  refine h_aload_n dX8_readRoad_67 rfl ?_
  refine g_X8_199  dX8_readRoad_68 ?_
  refine h_if_ne (tgt := 78) dX8_readRoad_71 (by decide) (fun q1 => ?_) (fun q1 => ?_)
  · rw [if_neg q1] at h
    exact (b_X8_readRoad_78 X Q  h E)
  · rw [if_pos q1] at h
    refine h_aload_n dX8_readRoad_74 rfl ?_
    obtain ⟨y1, hh1, h⟩ := obd_some h
    refine h_cVv [] (m_X8_stepOn  hh1) cw_X8_224 dX8_readRoad_75 rfl ok_8 (by decide) rfl (Or.inr rfl) rfl ?_
    exact (b_X8_readRoad_78 X Q  h E)
def f_X8_readRoad_62   (I : Mem) (v1 : Int32) (v2 : Int32) (v3 : Int32) : Option (Mem) :=
  (f_X8_wrong I (4 : Int32)).bind fun y1 =>
  f_X8_readRoad_67 y1 v1 v2 v3
theorem b_X8_readRoad_62 (X : CX) (Q : State → Prop) {I : Mem} {P : PMem} {O : Nat → Int64} {D : Bool} {n : Nat} {v1 : Int32} {v2 : Int32} {v3 : Int32} {r : (Mem)}  (h : f_X8_readRoad_62 I v1 v2 v3 = some r) (E : EndR X cX8_readRoad RX8 5 (none) 5 n none r P O D Q) : Here X cX8_readRoad RX8 5 (none) 5 n 62 [some (.inr (.inr (8, 0, 0))), some (.inl v1), some (.inl v2), some (.inl v3), none] [] I P O D n Q := by
  unfold f_X8_readRoad_62 at h
  refine h_aload_n dX8_readRoad_62 rfl ?_
  refine h_iconst (4 : Int32) dX8_readRoad_63 k_iconst_4 ?_
  obtain ⟨y1, hh1, h⟩ := obd_some h
  refine h_cVv [.inl (4 : Int32)] (m_X8_wrong  hh1) cw_X8_220 dX8_readRoad_64 rfl ok_8 (by decide) rfl (Or.inr rfl) rfl ?_
  exact (b_X8_readRoad_67 X Q  h E)
def f_X8_readRoad_27   (I : Mem) (v1 : Int32) : Option (Mem) :=
  (f_X8_townNow I).bind fun y1 =>
  if (y1.2 8 0 0 21) = 0 then (if v1 = y1.1 then (f_X8_readRoad_62 y1.2 v1 y1.1 (81 : Int32)) else ((f_X8_couple y1.2 v1 y1.1).bind fun y2 =>
  gd (inb ((81 : Int32) + y2) 162) <|
  if (y1.2 51 0 0 (((81 : Int32) + y2).toNatClampNeg)) ≤ 0 then (f_X8_readRoad_67 y1.2 v1 y1.1 (81 : Int32)) else (f_X8_readRoad_62 y1.2 v1 y1.1 (81 : Int32)))) else (f_X8_readRoad_67 y1.2 v1 y1.1 (81 : Int32))
theorem b_X8_readRoad_27 (X : CX) (Q : State → Prop) {I : Mem} {P : PMem} {O : Nat → Int64} {D : Bool} {n : Nat} {v1 : Int32} {r : (Mem)}  (h : f_X8_readRoad_27 I v1 = some r) (E : EndR X cX8_readRoad RX8 5 (none) 5 n none r P O D Q) : Here X cX8_readRoad RX8 5 (none) 5 n 27 [some (.inr (.inr (8, 0, 0))), some (.inl v1), none, none, none] [] I P O D n Q := by
  unfold f_X8_readRoad_27 at h
  refine h_aload_n dX8_readRoad_27 rfl ?_
  obtain ⟨y1, hh1, h⟩ := obd_some h
  refine h_cVi [] (m_X8_townNow  hh1) cw_X8_273 dX8_readRoad_28 rfl ok_8 (by decide) rfl (Or.inr rfl) rfl ?_
  refine h_istore_n dX8_readRoad_31 (by decide) rfl ?_
  refine h_bipush (81 : Int32) dX8_readRoad_32 k_bipush_81 ?_
  refine h_istore_n dX8_readRoad_34 (by decide) rfl ?_
  refine h_aload_n dX8_readRoad_35 rfl ?_
  refine g_X8_199  dX8_readRoad_36 ?_
  refine h_if_ne (tgt := 67) dX8_readRoad_39 (by decide) (fun q1 => ?_) (fun q1 => ?_)
  · rw [if_neg q1] at h
    exact (b_X8_readRoad_67 X Q  h E)
  · rw [if_pos q1] at h
    refine h_iload_n dX8_readRoad_42 rfl ?_
    refine h_iload_n dX8_readRoad_43 rfl ?_
    refine h_icmp_eq (tgt := 62) dX8_readRoad_44 (by decide) (fun q2 => ?_) (fun q2 => ?_)
    · rw [if_pos q2] at h
      exact (b_X8_readRoad_62 X Q  h E)
    · rw [if_neg q2] at h
      refine h_aload_n dX8_readRoad_47 rfl ?_
      refine g_X8_38  dX8_readRoad_48 ?_
      refine h_iload_n dX8_readRoad_51 rfl ?_
      refine h_iload_n dX8_readRoad_52 rfl ?_
      refine h_iload_n dX8_readRoad_53 rfl ?_
      obtain ⟨y2, hh2, h⟩ := obd_some h
      refine h_cSi [.inl v1, .inl y1.1] (m_X8_couple  hh2) cs_X8_276 dX8_readRoad_54 rfl (by decide) rfl (Or.inr rfl) rfl ?_
      refine h_iadd dX8_readRoad_57 ?_
      obtain ⟨g1, h⟩ := gd_some h
      refine al_51  (((81 : Int32) + y2).toNatClampNeg) rfl dX8_readRoad_58 g1 ?_
      refine h_if_le (tgt := 67) dX8_readRoad_59 (by decide) (fun q3 => ?_) (fun q3 => ?_)
      · rw [if_pos q3] at h
        exact (b_X8_readRoad_67 X Q  h E)
      · rw [if_neg q3] at h
        exact (b_X8_readRoad_62 X Q  h E)
def f_X8_readRoad   (I : Mem) : Option (Mem) :=
  (f_X8_another I (2 : Int32) (14 : Int32)).bind fun y1 =>
  if y1.1 = 0 then (some y1.2) else ((f_X8_townNow y1.2).bind fun y2 =>
  if (y2.2 8 0 0 21) = 0 then ((f_X8_stepOn y2.2).bind fun y3 =>
  f_X8_readRoad_27 y3 y2.1) else (f_X8_readRoad_27 y2.2 y2.1))
theorem b_X8_readRoad (X : CX) (Q : State → Prop) {I : Mem} {P : PMem} {O : Nat → Int64} {D : Bool} {n : Nat} {r : (Mem)}  (h : f_X8_readRoad I = some r) (E : EndR X cX8_readRoad RX8 5 (none) 5 n none r P O D Q) : Here X cX8_readRoad RX8 5 (none) 5 n 0 [some (.inr (.inr (8, 0, 0))), none, none, none, none] [] I P O D n Q := by
  unfold f_X8_readRoad at h
  refine h_aload_n dX8_readRoad_0 rfl ?_
  refine h_iconst (2 : Int32) dX8_readRoad_1 k_iconst_2 ?_
  refine h_bipush (14 : Int32) dX8_readRoad_2 k_bipush_14 ?_
  obtain ⟨y1, hh1, h⟩ := obd_some h
  refine h_cVi [.inl (2 : Int32), .inl (14 : Int32)] (m_X8_another  hh1) cw_X8_267 dX8_readRoad_4 rfl ok_8 (by decide) rfl (Or.inr rfl) rfl ?_
  refine h_if_ne (tgt := 11) dX8_readRoad_7 (by decide) (fun q1 => ?_) (fun q1 => ?_)
  · rw [if_neg q1] at h
    refine h_aload_n dX8_readRoad_11 rfl ?_
    obtain ⟨y2, hh2, h⟩ := obd_some h
    refine h_cVi [] (m_X8_townNow  hh2) cw_X8_273 dX8_readRoad_12 rfl ok_8 (by decide) rfl (Or.inr rfl) rfl ?_
    refine h_istore_n dX8_readRoad_15 (by decide) rfl ?_
    refine h_aload_n dX8_readRoad_16 rfl ?_
    refine g_X8_199  dX8_readRoad_17 ?_
    refine h_if_ne (tgt := 27) dX8_readRoad_20 (by decide) (fun q2 => ?_) (fun q2 => ?_)
    · rw [if_neg q2] at h
      exact (b_X8_readRoad_27 X Q  h E)
    · rw [if_pos q2] at h
      refine h_aload_n dX8_readRoad_23 rfl ?_
      obtain ⟨y3, hh3, h⟩ := obd_some h
      refine h_cVv [] (m_X8_stepOn  hh3) cw_X8_224 dX8_readRoad_24 rfl ok_8 (by decide) rfl (Or.inr rfl) rfl ?_
      exact (b_X8_readRoad_27 X Q  h E)
  · rw [if_pos q1] at h
    cases h
    exact h_vret dX8_readRoad_10 rfl E
theorem m_X8_readRoad {I : Mem} {P : PMem} {O : Nat → Int64} {D : Bool} {n : Nat}  {r : (Mem)}  (h : f_X8_readRoad I = some r) : MethR yX8_readRoad cX8_readRoad 5 (none) 5 [.inr (.inr (8, 0, 0))] I P O D n none r P O D n := meth_R (Nat.le_refl _) (by decide) rfl (Nat.le_of_ble_eq_true rfl) rfl (fun X Q E => b_X8_readRoad X Q  h E)
def f_X8_readJudge_186   (I : Mem) (v2 : Int32) (v3 : Int32) : Option (Mem) :=
  gd (inb v2 10) <|
  bnd (upd4 I 55 0 0 v2.toNatClampNeg v3) fun I1' =>
  bnd (upd4 I1' 50 0 0 11 ((I1' 50 0 0 11) + (1 : Int32))) fun I2' =>
  some I2'
theorem b_X8_readJudge_186 (X : CX) (Q : State → Prop) {I : Mem} {P : PMem} {O : Nat → Int64} {D : Bool} {n : Nat} {v2 : Int32} {v3 : Int32} {r : (Mem)}  (h : f_X8_readJudge_186 I v2 v3 = some r) (E : EndR X cX8_readJudge RX8 5 (none) 5 n none r P O D Q) : Here X cX8_readJudge RX8 5 (none) 5 n 186 [some (.inr (.inr (8, 0, 0))), none, some (.inl v2), some (.inl v3), none] [] I P O D n Q := by
  unfold f_X8_readJudge_186 at h
  refine h_aload_n dX8_readJudge_186 rfl ?_
  refine g_X8_49  dX8_readJudge_187 ?_
  refine h_iload_n dX8_readJudge_190 rfl ?_
  refine h_iload_n dX8_readJudge_191 rfl ?_
  obtain ⟨g1, h⟩ := gd_some h
  obtain ⟨I1', e1, h⟩ := bnd_some h
  refine as_55  v2.toNatClampNeg rfl dX8_readJudge_192 g1 ?_
  refine h_nmI e1 ?_
  refine h_aload_n dX8_readJudge_193 rfl ?_
  refine g_X8_34  dX8_readJudge_194 ?_
  refine h_bipush (11 : Int32) dX8_readJudge_197 k_bipush_11 ?_
  refine h_dup2 dX8_readJudge_199 (fun _ => rfl) (fun _ => rfl) ?_
  refine al_50  11 cl_11 dX8_readJudge_200 rfl ?_
  refine h_iconst (1 : Int32) dX8_readJudge_201 k_iconst_1 ?_
  refine h_iadd dX8_readJudge_202 ?_
  obtain ⟨I2', e2, h⟩ := bnd_some h
  refine as_50  11 cl_11 dX8_readJudge_203 rfl ?_
  refine h_nmI e2 ?_
  cases h
  exact h_vret dX8_readJudge_204 rfl E
def f_X8_readJudge_153 (k75 : Mem → Int32 → Int32 → Option (Mem))  (I : Mem) (v2 : Int32) (v3 : Int32) (v4 : Int32) : Option (Mem) :=
  if (I 8 0 0 21) = 0 then (gd (inb (((7 : Int32) * v2) + v3) 70) <|
  bnd (upd4 I 56 0 0 ((((7 : Int32) * v2) + v3).toNatClampNeg) v4) fun I1' =>
  (f_X8_stepOn I1').bind fun y1 =>
  k75 y1 v2 (v3 + (1 : Int32))) else (k75 I v2 v3)
theorem b_X8_readJudge_153 (X : CX) (Q : State → Prop) {I : Mem} {P : PMem} {O : Nat → Int64} {D : Bool} {n : Nat} {k75 : Mem → Int32 → Int32 → Option (Mem)} {v2 : Int32} {v3 : Int32} {v4 : Int32} {r : (Mem)}  (H75 : ∀ (I : Mem) (v2 : Int32) (v3 : Int32), k75 I v2 v3 = some r → Here X cX8_readJudge RX8 5 (none) 5 n 75 [some (.inr (.inr (8, 0, 0))), none, some (.inl v2), some (.inl v3), none] [] I P O D n Q) (h : f_X8_readJudge_153 k75 I v2 v3 v4 = some r) (E : EndR X cX8_readJudge RX8 5 (none) 5 n none r P O D Q) : Here X cX8_readJudge RX8 5 (none) 5 n 153 [some (.inr (.inr (8, 0, 0))), none, some (.inl v2), some (.inl v3), some (.inl v4)] [] I P O D n Q := by
  unfold f_X8_readJudge_153 at h
  refine h_aload_n dX8_readJudge_153 rfl ?_
  refine g_X8_199  dX8_readJudge_154 ?_
  refine h_if_eq (tgt := 163) dX8_readJudge_157 (by decide) (fun q1 => ?_) (fun q1 => ?_)
  · rw [if_pos q1] at h
    refine h_aload_n dX8_readJudge_163 rfl ?_
    refine g_X8_52  dX8_readJudge_164 ?_
    refine h_bipush (7 : Int32) dX8_readJudge_167 k_bipush_7 ?_
    refine h_iload_n dX8_readJudge_169 rfl ?_
    refine h_imul dX8_readJudge_170 ?_
    refine h_iload_n dX8_readJudge_171 rfl ?_
    refine h_iadd dX8_readJudge_172 ?_
    refine h_iload dX8_readJudge_173 rfl ?_
    obtain ⟨g1, h⟩ := gd_some h
    obtain ⟨I1', e1, h⟩ := bnd_some h
    refine as_56  ((((7 : Int32) * v2) + v3).toNatClampNeg) rfl dX8_readJudge_175 g1 ?_
    refine h_nmI e1 ?_
    refine h_iinc (1 : Int32) dX8_readJudge_176 rfl k_iinc_1 (by decide) rfl ?_
    refine h_aload_n dX8_readJudge_179 rfl ?_
    obtain ⟨y1, hh1, h⟩ := obd_some h
    refine h_cVv [] (m_X8_stepOn  hh1) cw_X8_224 dX8_readJudge_180 rfl ok_8 (by decide) rfl (Or.inr rfl) rfl ?_
    refine h_goto (tgt := 75) dX8_readJudge_183 (by decide) ?_
    exact h_mask [true, false, true, true, false] (H75 _ _ _ h)
  · rw [if_neg q1] at h
    refine h_goto (tgt := 75) dX8_readJudge_160 (by decide) ?_
    exact h_mask [true, false, true, true, false] (H75 _ _ _ h)
def f_X8_readJudge_101 (k75 : Mem → Int32 → Int32 → Option (Mem))  (I : Mem) (v2 : Int32) (v3 : Int32) : Option (Mem) :=
  (f_X8_townNow I).bind fun y1 =>
  if (y1.2 8 0 0 21) = 0 then (if v3 ≤ 0 then (f_X8_readJudge_153 k75 y1.2 v2 v3 y1.1) else (gd (inb ((((7 : Int32) * v2) + v3) - (1 : Int32)) 70) <|
  (f_X8_couple y1.2 (y1.2 56 0 0 (((((7 : Int32) * v2) + v3) - (1 : Int32)).toNatClampNeg)) y1.1).bind fun y2 =>
  gd (inb ((81 : Int32) + y2) 162) <|
  if (y1.2 51 0 0 (((81 : Int32) + y2).toNatClampNeg)) = 0 then ((f_X8_wrong y1.2 (6 : Int32)).bind fun y3 =>
  f_X8_readJudge_153 k75 y3 v2 v3 y1.1) else (f_X8_readJudge_153 k75 y1.2 v2 v3 y1.1))) else (f_X8_readJudge_153 k75 y1.2 v2 v3 y1.1)
theorem b_X8_readJudge_101 (X : CX) (Q : State → Prop) {I : Mem} {P : PMem} {O : Nat → Int64} {D : Bool} {n : Nat} {k75 : Mem → Int32 → Int32 → Option (Mem)} {v2 : Int32} {v3 : Int32} {r : (Mem)}  (H75 : ∀ (I : Mem) (v2 : Int32) (v3 : Int32), k75 I v2 v3 = some r → Here X cX8_readJudge RX8 5 (none) 5 n 75 [some (.inr (.inr (8, 0, 0))), none, some (.inl v2), some (.inl v3), none] [] I P O D n Q) (h : f_X8_readJudge_101 k75 I v2 v3 = some r) (E : EndR X cX8_readJudge RX8 5 (none) 5 n none r P O D Q) : Here X cX8_readJudge RX8 5 (none) 5 n 101 [some (.inr (.inr (8, 0, 0))), none, some (.inl v2), some (.inl v3), none] [] I P O D n Q := by
  unfold f_X8_readJudge_101 at h
  refine h_aload_n dX8_readJudge_101 rfl ?_
  obtain ⟨y1, hh1, h⟩ := obd_some h
  refine h_cVi [] (m_X8_townNow  hh1) cw_X8_273 dX8_readJudge_102 rfl ok_8 (by decide) rfl (Or.inr rfl) rfl ?_
  refine h_istore dX8_readJudge_105 (by decide) rfl ?_
  refine h_aload_n dX8_readJudge_107 rfl ?_
  refine g_X8_199  dX8_readJudge_108 ?_
  refine h_if_ne (tgt := 153) dX8_readJudge_111 (by decide) (fun q1 => ?_) (fun q1 => ?_)
  · rw [if_neg q1] at h
    exact (b_X8_readJudge_153 X Q H75  h E)
  · rw [if_pos q1] at h
    refine h_iload_n dX8_readJudge_114 rfl ?_
    refine h_if_le (tgt := 153) dX8_readJudge_115 (by decide) (fun q2 => ?_) (fun q2 => ?_)
    · rw [if_pos q2] at h
      exact (b_X8_readJudge_153 X Q H75  h E)
    · rw [if_neg q2] at h
      refine h_aload_n dX8_readJudge_118 rfl ?_
      refine g_X8_38  dX8_readJudge_119 ?_
      refine h_bipush (81 : Int32) dX8_readJudge_122 k_bipush_81 ?_
      refine h_aload_n dX8_readJudge_124 rfl ?_
      refine g_X8_52  dX8_readJudge_125 ?_
      refine h_bipush (7 : Int32) dX8_readJudge_128 k_bipush_7 ?_
      refine h_iload_n dX8_readJudge_130 rfl ?_
      refine h_imul dX8_readJudge_131 ?_
      refine h_iload_n dX8_readJudge_132 rfl ?_
      refine h_iadd dX8_readJudge_133 ?_
      refine h_iconst (1 : Int32) dX8_readJudge_134 k_iconst_1 ?_
      refine h_isub dX8_readJudge_135 ?_
      obtain ⟨g1, h⟩ := gd_some h
      refine al_56  (((((7 : Int32) * v2) + v3) - (1 : Int32)).toNatClampNeg) rfl dX8_readJudge_136 g1 ?_
      refine h_iload dX8_readJudge_137 rfl ?_
      obtain ⟨y2, hh2, h⟩ := obd_some h
      refine h_cSi [.inl (y1.2 56 0 0 (((((7 : Int32) * v2) + v3) - (1 : Int32)).toNatClampNeg)), .inl y1.1] (m_X8_couple  hh2) cs_X8_276 dX8_readJudge_139 rfl (by decide) rfl (Or.inr rfl) rfl ?_
      refine h_iadd dX8_readJudge_142 ?_
      obtain ⟨g2, h⟩ := gd_some h
      refine al_51  (((81 : Int32) + y2).toNatClampNeg) rfl dX8_readJudge_143 g2 ?_
      refine h_if_ne (tgt := 153) dX8_readJudge_144 (by decide) (fun q3 => ?_) (fun q3 => ?_)
      · rw [if_neg q3] at h
        exact (b_X8_readJudge_153 X Q H75  h E)
      · rw [if_pos q3] at h
        refine h_aload_n dX8_readJudge_147 rfl ?_
        refine h_bipush (6 : Int32) dX8_readJudge_148 k_bipush_6 ?_
        obtain ⟨y3, hh3, h⟩ := obd_some h
        refine h_cVv [.inl (6 : Int32)] (m_X8_wrong  hh3) cw_X8_220 dX8_readJudge_150 rfl ok_8 (by decide) rfl (Or.inr rfl) rfl ?_
        exact (b_X8_readJudge_153 X Q H75  h E)
def f_X8_readJudge_75   : Nat → Mem → Int32 → Int32 → Option (Mem)
  | 0, _, _, _ => none
  | fu + 1, I, v2, v3 =>
    if (I 8 0 0 21) = 0 then (if (I 8 0 0 17) = (2 : Int32) then (if v3 = (7 : Int32) then ((f_X8_wrong I (2 : Int32)).bind fun y1 =>
    f_X8_readJudge_101 (f_X8_readJudge_75 fu) y1 v2 v3) else (f_X8_readJudge_101 (f_X8_readJudge_75 fu) I v2 v3)) else (f_X8_readJudge_186 I v2 v3)) else (f_X8_readJudge_186 I v2 v3)
theorem b_X8_readJudge_75 (X : CX) (Q : State → Prop) {P : PMem} {O : Nat → Int64} {D : Bool} {n : Nat} {r : (Mem)}  : ∀ (fu : Nat) {I : Mem} {v2 : Int32} {v3 : Int32}, f_X8_readJudge_75 fu I v2 v3 = some r → EndR X cX8_readJudge RX8 5 (none) 5 n none r P O D Q → Here X cX8_readJudge RX8 5 (none) 5 n 75 [some (.inr (.inr (8, 0, 0))), none, some (.inl v2), some (.inl v3), none] [] I P O D n Q := by
  intro fu
  induction fu with
  | zero => intro I v2 v3 h E; cases h
  | succ fu ih =>
  intro I v2 v3 h E
  have H75 : ∀ (I : Mem) (v2 : Int32) (v3 : Int32), f_X8_readJudge_75 fu I v2 v3 = some r → Here X cX8_readJudge RX8 5 (none) 5 n 75 [some (.inr (.inr (8, 0, 0))), none, some (.inl v2), some (.inl v3), none] [] I P O D n Q := fun _ _ _ b => ih b E
  simp only [f_X8_readJudge_75] at h
  refine h_aload_n dX8_readJudge_75 rfl ?_
  refine g_X8_199  dX8_readJudge_76 ?_
  refine h_if_ne (tgt := 186) dX8_readJudge_79 (by decide) (fun q1 => ?_) (fun q1 => ?_)
  · rw [if_neg q1] at h
    exact (b_X8_readJudge_186 X Q  h E)
  · rw [if_pos q1] at h
    refine h_aload_n dX8_readJudge_82 rfl ?_
    refine g_X8_173  dX8_readJudge_83 ?_
    refine h_iconst (2 : Int32) dX8_readJudge_86 k_iconst_2 ?_
    refine h_icmp_ne (tgt := 186) dX8_readJudge_87 (by decide) (fun q2 => ?_) (fun q2 => ?_)
    · rw [if_neg q2] at h
      exact (b_X8_readJudge_186 X Q  h E)
    · rw [if_pos q2] at h
      refine h_iload_n dX8_readJudge_90 rfl ?_
      refine h_bipush (7 : Int32) dX8_readJudge_91 k_bipush_7 ?_
      refine h_icmp_ne (tgt := 101) dX8_readJudge_93 (by decide) (fun q3 => ?_) (fun q3 => ?_)
      · rw [if_neg q3] at h
        exact (b_X8_readJudge_101 X Q H75  h E)
      · rw [if_pos q3] at h
        refine h_aload_n dX8_readJudge_96 rfl ?_
        refine h_iconst (2 : Int32) dX8_readJudge_97 k_iconst_2 ?_
        obtain ⟨y1, hh1, h⟩ := obd_some h
        refine h_cVv [.inl (2 : Int32)] (m_X8_wrong  hh1) cw_X8_220 dX8_readJudge_98 rfl ok_8 (by decide) rfl (Or.inr rfl) rfl ?_
        exact (b_X8_readJudge_101 X Q H75  h E)
def f_X8_readJudge   (I : Mem) (v1 : Int32) : Option (Mem) :=
  (f_X8_another I (4 : Int32) (5 : Int32)).bind fun y1 =>
  if y1.1 = 0 then (some y1.2) else (bnd ((5 : Int32) + (y1.2 50 0 0 11)) fun x1 =>
  gd (inb x1 10) <|
  bnd (upd4 y1.2 52 0 0 x1.toNatClampNeg v1) fun I1' =>
  (f_X8_readNumber I1' (0 : Int32) (60 : Int32)).bind fun y2 =>
  bnd (upd4 y2.2 53 0 0 x1.toNatClampNeg y2.1) fun I2' =>
  (f_X8_readNumber I2' (0 : Int32) (9 : Int32)).bind fun y3 =>
  bnd (upd4 y3.2 54 0 0 x1.toNatClampNeg y3.1) fun I3' =>
  if (I3' 8 0 0 21) = 0 then (if (I3' 8 0 0 17) = (2 : Int32) then (f_X8_readJudge_75 FU I3' x1 (0 : Int32)) else ((f_X8_wrong I3' (1 : Int32)).bind fun y4 =>
  f_X8_readJudge_75 FU y4 x1 (0 : Int32))) else (f_X8_readJudge_75 FU I3' x1 (0 : Int32)))
theorem b_X8_readJudge (X : CX) (Q : State → Prop) {I : Mem} {P : PMem} {O : Nat → Int64} {D : Bool} {n : Nat} {v1 : Int32} {r : (Mem)}  (h : f_X8_readJudge I v1 = some r) (E : EndR X cX8_readJudge RX8 5 (none) 5 n none r P O D Q) : Here X cX8_readJudge RX8 5 (none) 5 n 0 [some (.inr (.inr (8, 0, 0))), some (.inl v1), none, none, none] [] I P O D n Q := by
  unfold f_X8_readJudge at h
  refine h_aload_n dX8_readJudge_0 rfl ?_
  refine h_iconst (4 : Int32) dX8_readJudge_1 k_iconst_4 ?_
  refine h_iconst (5 : Int32) dX8_readJudge_2 k_iconst_5 ?_
  obtain ⟨y1, hh1, h⟩ := obd_some h
  refine h_cVi [.inl (4 : Int32), .inl (5 : Int32)] (m_X8_another  hh1) cw_X8_267 dX8_readJudge_3 rfl ok_8 (by decide) rfl (Or.inr rfl) rfl ?_
  refine h_if_ne (tgt := 10) dX8_readJudge_6 (by decide) (fun q1 => ?_) (fun q1 => ?_)
  · rw [if_neg q1] at h
    refine h_iconst (5 : Int32) dX8_readJudge_10 k_iconst_5 ?_
    refine h_aload_n dX8_readJudge_11 rfl ?_
    refine g_X8_34  dX8_readJudge_12 ?_
    refine h_bipush (11 : Int32) dX8_readJudge_15 k_bipush_11 ?_
    refine al_50  11 cl_11 dX8_readJudge_17 rfl ?_
    refine h_iadd dX8_readJudge_18 ?_
    obtain ⟨x1, e1, h⟩ := bnd_some h
    refine h_nmv e1 ?_
    refine h_istore_n dX8_readJudge_19 (by decide) rfl ?_
    refine h_aload_n dX8_readJudge_20 rfl ?_
    refine g_X8_41  dX8_readJudge_21 ?_
    refine h_iload_n dX8_readJudge_24 rfl ?_
    refine h_iload_n dX8_readJudge_25 rfl ?_
    obtain ⟨g1, h⟩ := gd_some h
    obtain ⟨I1', e2, h⟩ := bnd_some h
    refine as_52  x1.toNatClampNeg rfl dX8_readJudge_26 g1 ?_
    refine h_nmI e2 ?_
    refine h_aload_n dX8_readJudge_27 rfl ?_
    refine g_X8_44  dX8_readJudge_28 ?_
    refine h_iload_n dX8_readJudge_31 rfl ?_
    refine h_aload_n dX8_readJudge_32 rfl ?_
    refine h_iconst (0 : Int32) dX8_readJudge_33 k_iconst_0 ?_
    refine h_bipush (60 : Int32) dX8_readJudge_34 k_bipush_60 ?_
    obtain ⟨y2, hh2, h⟩ := obd_some h
    refine h_cVi [.inl (0 : Int32), .inl (60 : Int32)] (m_X8_readNumber  hh2) cw_X8_230 dX8_readJudge_36 rfl ok_8 (by decide) rfl (Or.inr rfl) rfl ?_
    obtain ⟨I2', e3, h⟩ := bnd_some h
    refine as_53  x1.toNatClampNeg rfl dX8_readJudge_39 g1 ?_
    refine h_nmI e3 ?_
    refine h_aload_n dX8_readJudge_40 rfl ?_
    refine g_X8_47  dX8_readJudge_41 ?_
    refine h_iload_n dX8_readJudge_44 rfl ?_
    refine h_aload_n dX8_readJudge_45 rfl ?_
    refine h_iconst (0 : Int32) dX8_readJudge_46 k_iconst_0 ?_
    refine h_bipush (9 : Int32) dX8_readJudge_47 k_bipush_9 ?_
    obtain ⟨y3, hh3, h⟩ := obd_some h
    refine h_cVi [.inl (0 : Int32), .inl (9 : Int32)] (m_X8_readNumber  hh3) cw_X8_230 dX8_readJudge_49 rfl ok_8 (by decide) rfl (Or.inr rfl) rfl ?_
    obtain ⟨I3', e4, h⟩ := bnd_some h
    refine as_54  x1.toNatClampNeg rfl dX8_readJudge_52 g1 ?_
    refine h_nmI e4 ?_
    refine h_iconst (0 : Int32) dX8_readJudge_53 k_iconst_0 ?_
    refine h_istore_n dX8_readJudge_54 (by decide) rfl ?_
    refine h_aload_n dX8_readJudge_55 rfl ?_
    refine g_X8_199  dX8_readJudge_56 ?_
    refine h_if_ne (tgt := 75) dX8_readJudge_59 (by decide) (fun q2 => ?_) (fun q2 => ?_)
    · rw [if_neg q2] at h
      exact h_mask [true, false, true, true, false] (b_X8_readJudge_75 X Q FU  h E)
    · rw [if_pos q2] at h
      refine h_aload_n dX8_readJudge_62 rfl ?_
      refine g_X8_173  dX8_readJudge_63 ?_
      refine h_iconst (2 : Int32) dX8_readJudge_66 k_iconst_2 ?_
      refine h_icmp_eq (tgt := 75) dX8_readJudge_67 (by decide) (fun q3 => ?_) (fun q3 => ?_)
      · rw [if_pos q3] at h
        exact h_mask [true, false, true, true, false] (b_X8_readJudge_75 X Q FU  h E)
      · rw [if_neg q3] at h
        refine h_aload_n dX8_readJudge_70 rfl ?_
        refine h_iconst (1 : Int32) dX8_readJudge_71 k_iconst_1 ?_
        obtain ⟨y4, hh4, h⟩ := obd_some h
        refine h_cVv [.inl (1 : Int32)] (m_X8_wrong  hh4) cw_X8_220 dX8_readJudge_72 rfl ok_8 (by decide) rfl (Or.inr rfl) rfl ?_
        exact h_mask [true, false, true, true, false] (b_X8_readJudge_75 X Q FU  h E)
  · rw [if_pos q1] at h
    cases h
    exact h_vret dX8_readJudge_9 rfl E
theorem m_X8_readJudge {I : Mem} {P : PMem} {O : Nat → Int64} {D : Bool} {n : Nat} {v1 : Int32} {r : (Mem)}  (h : f_X8_readJudge I v1 = some r) : MethR yX8_readJudge cX8_readJudge 5 (none) 5 [.inr (.inr (8, 0, 0)), .inl v1] I P O D n none r P O D n := meth_R (Nat.le_refl _) (by decide) rfl (Nat.le_of_ble_eq_true rfl) rfl (fun X Q E => b_X8_readJudge X Q  h E)
