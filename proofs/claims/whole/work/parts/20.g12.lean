theorem dX8_numberNow_0 : decode cX8_numberNow 0 = .ok (.aload_n 0, 1) := by decide +kernel
theorem dX8_numberNow_1 : decode cX8_numberNow 1 = .ok (.getfield 199, 3) := by decide +kernel
theorem dX8_numberNow_4 : decode cX8_numberNow 4 = .ok (.ifCond .eq 5, 3) := by decide +kernel
theorem dX8_numberNow_7 : decode cX8_numberNow 7 = .ok (.iconst 0, 1) := by decide +kernel
theorem dX8_numberNow_8 : decode cX8_numberNow 8 = .ok (.ireturn, 1) := by decide +kernel
theorem dX8_numberNow_9 : decode cX8_numberNow 9 = .ok (.aload_n 0, 1) := by decide +kernel
theorem dX8_numberNow_10 : decode cX8_numberNow 10 = .ok (.getfield 173, 3) := by decide +kernel
theorem dX8_numberNow_13 : decode cX8_numberNow 13 = .ok (.iconst 2, 1) := by decide +kernel
theorem dX8_numberNow_14 : decode cX8_numberNow 14 = .ok (.if_icmp .eq 11, 3) := by decide +kernel
theorem dX8_numberNow_17 : decode cX8_numberNow 17 = .ok (.aload_n 0, 1) := by decide +kernel
theorem dX8_numberNow_18 : decode cX8_numberNow 18 = .ok (.iconst 1, 1) := by decide +kernel
theorem dX8_numberNow_19 : decode cX8_numberNow 19 = .ok (.invokevirtual 220, 3) := by decide +kernel
theorem dX8_numberNow_22 : decode cX8_numberNow 22 = .ok (.goto 37, 3) := by decide +kernel
theorem dX8_numberNow_25 : decode cX8_numberNow 25 = .ok (.aload_n 0, 1) := by decide +kernel
theorem dX8_numberNow_26 : decode cX8_numberNow 26 = .ok (.getfield 196, 3) := by decide +kernel
theorem dX8_numberNow_29 : decode cX8_numberNow 29 = .ok (.aload_n 0, 1) := by decide +kernel
theorem dX8_numberNow_30 : decode cX8_numberNow 30 = .ok (.getfield 170, 3) := by decide +kernel
theorem dX8_numberNow_33 : decode cX8_numberNow 33 = .ok (.isub, 1) := by decide +kernel
theorem dX8_numberNow_34 : decode cX8_numberNow 34 = .ok (.iconst 4, 1) := by decide +kernel
theorem dX8_numberNow_35 : decode cX8_numberNow 35 = .ok (.if_icmp .gt 19, 3) := by decide +kernel
theorem dX8_numberNow_38 : decode cX8_numberNow 38 = .ok (.aload_n 0, 1) := by decide +kernel
theorem dX8_numberNow_39 : decode cX8_numberNow 39 = .ok (.getfield 183, 3) := by decide +kernel
theorem dX8_numberNow_42 : decode cX8_numberNow 42 = .ok (.iload_n 1, 1) := by decide +kernel
theorem dX8_numberNow_43 : decode cX8_numberNow 43 = .ok (.if_icmp .lt 11, 3) := by decide +kernel
theorem dX8_numberNow_46 : decode cX8_numberNow 46 = .ok (.aload_n 0, 1) := by decide +kernel
theorem dX8_numberNow_47 : decode cX8_numberNow 47 = .ok (.getfield 183, 3) := by decide +kernel
theorem dX8_numberNow_50 : decode cX8_numberNow 50 = .ok (.iload_n 2, 1) := by decide +kernel
theorem dX8_numberNow_51 : decode cX8_numberNow 51 = .ok (.if_icmp .le 8, 3) := by decide +kernel
theorem dX8_numberNow_54 : decode cX8_numberNow 54 = .ok (.aload_n 0, 1) := by decide +kernel
theorem dX8_numberNow_55 : decode cX8_numberNow 55 = .ok (.iconst 2, 1) := by decide +kernel
theorem dX8_numberNow_56 : decode cX8_numberNow 56 = .ok (.invokevirtual 220, 3) := by decide +kernel
theorem dX8_numberNow_59 : decode cX8_numberNow 59 = .ok (.aload_n 0, 1) := by decide +kernel
theorem dX8_numberNow_60 : decode cX8_numberNow 60 = .ok (.getfield 199, 3) := by decide +kernel
theorem dX8_numberNow_63 : decode cX8_numberNow 63 = .ok (.ifCond .ne 10, 3) := by decide +kernel
theorem dX8_numberNow_66 : decode cX8_numberNow 66 = .ok (.aload_n 0, 1) := by decide +kernel
theorem dX8_numberNow_67 : decode cX8_numberNow 67 = .ok (.getfield 183, 3) := by decide +kernel
theorem dX8_numberNow_70 : decode cX8_numberNow 70 = .ok (.goto 4, 3) := by decide +kernel
theorem dX8_numberNow_73 : decode cX8_numberNow 73 = .ok (.iconst 0, 1) := by decide +kernel
theorem dX8_numberNow_74 : decode cX8_numberNow 74 = .ok (.ireturn, 1) := by decide +kernel
theorem dX8_readNumber_0 : decode cX8_readNumber 0 = .ok (.aload_n 0, 1) := by decide +kernel
theorem dX8_readNumber_1 : decode cX8_readNumber 1 = .ok (.iload_n 1, 1) := by decide +kernel
theorem dX8_readNumber_2 : decode cX8_readNumber 2 = .ok (.iload_n 2, 1) := by decide +kernel
theorem dX8_readNumber_3 : decode cX8_readNumber 3 = .ok (.invokevirtual 227, 3) := by decide +kernel
theorem dX8_readNumber_6 : decode cX8_readNumber 6 = .ok (.istore_n 3, 1) := by decide +kernel
theorem dX8_readNumber_7 : decode cX8_readNumber 7 = .ok (.aload_n 0, 1) := by decide +kernel
theorem dX8_readNumber_8 : decode cX8_readNumber 8 = .ok (.getfield 199, 3) := by decide +kernel
theorem dX8_readNumber_11 : decode cX8_readNumber 11 = .ok (.ifCond .ne 7, 3) := by decide +kernel
theorem dX8_readNumber_14 : decode cX8_readNumber 14 = .ok (.aload_n 0, 1) := by decide +kernel
theorem dX8_readNumber_15 : decode cX8_readNumber 15 = .ok (.invokevirtual 224, 3) := by decide +kernel
theorem dX8_readNumber_18 : decode cX8_readNumber 18 = .ok (.iload_n 3, 1) := by decide +kernel
theorem dX8_readNumber_19 : decode cX8_readNumber 19 = .ok (.ireturn, 1) := by decide +kernel
theorem dX8_townNow_0 : decode cX8_townNow 0 = .ok (.aload_n 0, 1) := by decide +kernel
theorem dX8_townNow_1 : decode cX8_townNow 1 = .ok (.iconst 0, 1) := by decide +kernel
theorem dX8_townNow_2 : decode cX8_townNow 2 = .ok (.sipush 9999, 3) := by decide +kernel
theorem dX8_townNow_5 : decode cX8_townNow 5 = .ok (.invokevirtual 227, 3) := by decide +kernel
theorem dX8_townNow_8 : decode cX8_townNow 8 = .ok (.istore_n 1, 1) := by decide +kernel
theorem dX8_townNow_9 : decode cX8_townNow 9 = .ok (.aload_n 0, 1) := by decide +kernel
theorem dX8_townNow_10 : decode cX8_townNow 10 = .ok (.getfield 199, 3) := by decide +kernel
theorem dX8_townNow_13 : decode cX8_townNow 13 = .ok (.ifCond .ne 19, 3) := by decide +kernel
theorem dX8_townNow_16 : decode cX8_townNow 16 = .ok (.iload_n 1, 1) := by decide +kernel
theorem dX8_townNow_17 : decode cX8_townNow 17 = .ok (.aload_n 0, 1) := by decide +kernel
theorem dX8_townNow_18 : decode cX8_townNow 18 = .ok (.getfield 34, 3) := by decide +kernel
theorem dX8_townNow_21 : decode cX8_townNow 21 = .ok (.bipush 7, 2) := by decide +kernel
theorem dX8_townNow_23 : decode cX8_townNow 23 = .ok (.iaload, 1) := by decide +kernel
theorem dX8_townNow_24 : decode cX8_townNow 24 = .ok (.if_icmp .lt 8, 3) := by decide +kernel
theorem dX8_townNow_27 : decode cX8_townNow 27 = .ok (.aload_n 0, 1) := by decide +kernel
theorem dX8_townNow_28 : decode cX8_townNow 28 = .ok (.iconst 3, 1) := by decide +kernel
theorem dX8_townNow_29 : decode cX8_townNow 29 = .ok (.invokevirtual 220, 3) := by decide +kernel
theorem dX8_townNow_32 : decode cX8_townNow 32 = .ok (.aload_n 0, 1) := by decide +kernel
theorem dX8_townNow_33 : decode cX8_townNow 33 = .ok (.getfield 199, 3) := by decide +kernel
theorem dX8_townNow_36 : decode cX8_townNow 36 = .ok (.ifCond .ne 7, 3) := by decide +kernel
theorem dX8_townNow_39 : decode cX8_townNow 39 = .ok (.iload_n 1, 1) := by decide +kernel
theorem dX8_townNow_40 : decode cX8_townNow 40 = .ok (.goto 4, 3) := by decide +kernel
theorem dX8_townNow_43 : decode cX8_townNow 43 = .ok (.iconst 0, 1) := by decide +kernel
theorem dX8_townNow_44 : decode cX8_townNow 44 = .ok (.ireturn, 1) := by decide +kernel
theorem dX8_lay_0 : decode cX8_lay 0 = .ok (.aload_n 0, 1) := by decide +kernel
theorem dX8_lay_1 : decode cX8_lay 1 = .ok (.getfield 199, 3) := by decide +kernel
theorem dX8_lay_4 : decode cX8_lay 4 = .ok (.ifCond .eq 4, 3) := by decide +kernel
theorem dX8_lay_7 : decode cX8_lay 7 = .ok (.return_, 1) := by decide +kernel
theorem dX8_lay_8 : decode cX8_lay 8 = .ok (.aload_n 0, 1) := by decide +kernel
theorem dX8_lay_9 : decode cX8_lay 9 = .ok (.getfield 57, 3) := by decide +kernel
theorem dX8_lay_12 : decode cX8_lay 12 = .ok (.sipush 600, 3) := by decide +kernel
theorem dX8_lay_15 : decode cX8_lay 15 = .ok (.aload_n 0, 1) := by decide +kernel
theorem dX8_lay_16 : decode cX8_lay 16 = .ok (.getfield 34, 3) := by decide +kernel
theorem dX8_lay_19 : decode cX8_lay 19 = .ok (.bipush 13, 2) := by decide +kernel
theorem dX8_lay_21 : decode cX8_lay 21 = .ok (.iaload, 1) := by decide +kernel
theorem dX8_lay_22 : decode cX8_lay 22 = .ok (.iadd, 1) := by decide +kernel
theorem dX8_lay_23 : decode cX8_lay 23 = .ok (.iload_n 1, 1) := by decide +kernel
theorem dX8_lay_24 : decode cX8_lay 24 = .ok (.iastore, 1) := by decide +kernel
theorem dX8_lay_25 : decode cX8_lay 25 = .ok (.aload_n 0, 1) := by decide +kernel
theorem dX8_lay_26 : decode cX8_lay 26 = .ok (.getfield 34, 3) := by decide +kernel
theorem dX8_lay_29 : decode cX8_lay 29 = .ok (.bipush 13, 2) := by decide +kernel
theorem dX8_lay_31 : decode cX8_lay 31 = .ok (.dup2, 1) := by decide +kernel
theorem dX8_lay_32 : decode cX8_lay 32 = .ok (.iaload, 1) := by decide +kernel
theorem dX8_lay_33 : decode cX8_lay 33 = .ok (.iconst 1, 1) := by decide +kernel
theorem dX8_lay_34 : decode cX8_lay 34 = .ok (.iadd, 1) := by decide +kernel
theorem dX8_lay_35 : decode cX8_lay 35 = .ok (.iastore, 1) := by decide +kernel
theorem dX8_lay_36 : decode cX8_lay 36 = .ok (.return_, 1) := by decide +kernel
theorem dX8_readProduct_0 : decode cX8_readProduct 0 = .ok (.aload_n 0, 1) := by decide +kernel
theorem dX8_readProduct_1 : decode cX8_readProduct 1 = .ok (.iload_n 1, 1) := by decide +kernel
theorem dX8_readProduct_2 : decode cX8_readProduct 2 = .ok (.invokevirtual 246, 3) := by decide +kernel
theorem dX8_readProduct_5 : decode cX8_readProduct 5 = .ok (.aload_n 0, 1) := by decide +kernel
theorem dX8_readProduct_6 : decode cX8_readProduct 6 = .ok (.bipush 42, 2) := by decide +kernel
theorem dX8_readProduct_8 : decode cX8_readProduct 8 = .ok (.invokevirtual 217, 3) := by decide +kernel
theorem dX8_readProduct_11 : decode cX8_readProduct 11 = .ok (.ifCond .ne 12, 3) := by decide +kernel
theorem dX8_readProduct_14 : decode cX8_readProduct 14 = .ok (.aload_n 0, 1) := by decide +kernel
theorem dX8_readProduct_15 : decode cX8_readProduct 15 = .ok (.bipush 47, 2) := by decide +kernel
theorem dX8_readProduct_17 : decode cX8_readProduct 17 = .ok (.invokevirtual 217, 3) := by decide +kernel
theorem dX8_readProduct_20 : decode cX8_readProduct 20 = .ok (.ifCond .eq 37, 3) := by decide +kernel
theorem dX8_readProduct_23 : decode cX8_readProduct 23 = .ok (.aload_n 0, 1) := by decide +kernel
theorem dX8_readProduct_24 : decode cX8_readProduct 24 = .ok (.bipush 42, 2) := by decide +kernel
theorem dX8_readProduct_26 : decode cX8_readProduct 26 = .ok (.invokevirtual 217, 3) := by decide +kernel
theorem dX8_readProduct_29 : decode cX8_readProduct 29 = .ok (.ifCond .eq 8, 3) := by decide +kernel
theorem dX8_readProduct_32 : decode cX8_readProduct 32 = .ok (.bipush (-22), 2) := by decide +kernel
theorem dX8_readProduct_34 : decode cX8_readProduct 34 = .ok (.goto 5, 3) := by decide +kernel
theorem dX8_readProduct_37 : decode cX8_readProduct 37 = .ok (.bipush (-23), 2) := by decide +kernel
theorem dX8_readProduct_39 : decode cX8_readProduct 39 = .ok (.istore_n 2, 1) := by decide +kernel
theorem dX8_readProduct_40 : decode cX8_readProduct 40 = .ok (.aload_n 0, 1) := by decide +kernel
theorem dX8_readProduct_41 : decode cX8_readProduct 41 = .ok (.invokevirtual 224, 3) := by decide +kernel
theorem dX8_readProduct_44 : decode cX8_readProduct 44 = .ok (.aload_n 0, 1) := by decide +kernel
theorem dX8_readProduct_45 : decode cX8_readProduct 45 = .ok (.iload_n 1, 1) := by decide +kernel
theorem dX8_readProduct_46 : decode cX8_readProduct 46 = .ok (.invokevirtual 246, 3) := by decide +kernel
theorem dX8_readProduct_49 : decode cX8_readProduct 49 = .ok (.aload_n 0, 1) := by decide +kernel
theorem dX8_readProduct_50 : decode cX8_readProduct 50 = .ok (.iload_n 2, 1) := by decide +kernel
theorem dX8_readProduct_51 : decode cX8_readProduct 51 = .ok (.invokevirtual 233, 3) := by decide +kernel
theorem dX8_readProduct_54 : decode cX8_readProduct 54 = .ok (.goto (-49), 3) := by decide +kernel
theorem dX8_readProduct_57 : decode cX8_readProduct 57 = .ok (.return_, 1) := by decide +kernel
theorem dX8_readSum_0 : decode cX8_readSum 0 = .ok (.aload_n 0, 1) := by decide +kernel
theorem dX8_readSum_1 : decode cX8_readSum 1 = .ok (.iload_n 1, 1) := by decide +kernel
theorem dX8_readSum_2 : decode cX8_readSum 2 = .ok (.invokevirtual 249, 3) := by decide +kernel
theorem dX8_readSum_5 : decode cX8_readSum 5 = .ok (.aload_n 0, 1) := by decide +kernel
theorem dX8_readSum_6 : decode cX8_readSum 6 = .ok (.bipush 43, 2) := by decide +kernel
theorem dX8_readSum_8 : decode cX8_readSum 8 = .ok (.invokevirtual 217, 3) := by decide +kernel
theorem dX8_readSum_11 : decode cX8_readSum 11 = .ok (.ifCond .ne 12, 3) := by decide +kernel
theorem dX8_readSum_14 : decode cX8_readSum 14 = .ok (.aload_n 0, 1) := by decide +kernel
theorem dX8_readSum_15 : decode cX8_readSum 15 = .ok (.bipush 45, 2) := by decide +kernel
theorem dX8_readSum_17 : decode cX8_readSum 17 = .ok (.invokevirtual 217, 3) := by decide +kernel
theorem dX8_readSum_20 : decode cX8_readSum 20 = .ok (.ifCond .eq 37, 3) := by decide +kernel
theorem dX8_readSum_23 : decode cX8_readSum 23 = .ok (.aload_n 0, 1) := by decide +kernel
theorem dX8_readSum_24 : decode cX8_readSum 24 = .ok (.bipush 43, 2) := by decide +kernel
theorem dX8_readSum_26 : decode cX8_readSum 26 = .ok (.invokevirtual 217, 3) := by decide +kernel
theorem dX8_readSum_29 : decode cX8_readSum 29 = .ok (.ifCond .eq 8, 3) := by decide +kernel
theorem dX8_readSum_32 : decode cX8_readSum 32 = .ok (.bipush (-20), 2) := by decide +kernel
theorem dX8_readSum_34 : decode cX8_readSum 34 = .ok (.goto 5, 3) := by decide +kernel
theorem dX8_readSum_37 : decode cX8_readSum 37 = .ok (.bipush (-21), 2) := by decide +kernel
theorem dX8_readSum_39 : decode cX8_readSum 39 = .ok (.istore_n 2, 1) := by decide +kernel
theorem dX8_readSum_40 : decode cX8_readSum 40 = .ok (.aload_n 0, 1) := by decide +kernel
theorem dX8_readSum_41 : decode cX8_readSum 41 = .ok (.invokevirtual 224, 3) := by decide +kernel
theorem dX8_readSum_44 : decode cX8_readSum 44 = .ok (.aload_n 0, 1) := by decide +kernel
theorem dX8_readSum_45 : decode cX8_readSum 45 = .ok (.iload_n 1, 1) := by decide +kernel
theorem dX8_readSum_46 : decode cX8_readSum 46 = .ok (.invokevirtual 249, 3) := by decide +kernel
theorem dX8_readSum_49 : decode cX8_readSum 49 = .ok (.aload_n 0, 1) := by decide +kernel
theorem dX8_readSum_50 : decode cX8_readSum 50 = .ok (.iload_n 2, 1) := by decide +kernel
theorem dX8_readSum_51 : decode cX8_readSum 51 = .ok (.invokevirtual 233, 3) := by decide +kernel
theorem dX8_readSum_54 : decode cX8_readSum 54 = .ok (.goto (-49), 3) := by decide +kernel
theorem dX8_readSum_57 : decode cX8_readSum 57 = .ok (.return_, 1) := by decide +kernel
theorem dX8_readNot_0 : decode cX8_readNot 0 = .ok (.iconst 0, 1) := by decide +kernel
theorem dX8_readNot_1 : decode cX8_readNot 1 = .ok (.istore_n 2, 1) := by decide +kernel
theorem dX8_readNot_2 : decode cX8_readNot 2 = .ok (.aload_n 0, 1) := by decide +kernel
theorem dX8_readNot_3 : decode cX8_readNot 3 = .ok (.ldc 252, 2) := by decide +kernel
theorem dX8_readNot_5 : decode cX8_readNot 5 = .ok (.invokevirtual 213, 3) := by decide +kernel
theorem dX8_readNot_8 : decode cX8_readNot 8 = .ok (.ifCond .eq 31, 3) := by decide +kernel
theorem dX8_readNot_11 : decode cX8_readNot 11 = .ok (.iload_n 2, 1) := by decide +kernel
theorem dX8_readNot_12 : decode cX8_readNot 12 = .ok (.bipush 6, 2) := by decide +kernel
theorem dX8_readNot_14 : decode cX8_readNot 14 = .ok (.if_icmp .ne 8, 3) := by decide +kernel
theorem dX8_readNot_17 : decode cX8_readNot 17 = .ok (.aload_n 0, 1) := by decide +kernel
theorem dX8_readNot_18 : decode cX8_readNot 18 = .ok (.iconst 2, 1) := by decide +kernel
theorem dX8_readNot_19 : decode cX8_readNot 19 = .ok (.invokevirtual 220, 3) := by decide +kernel
theorem dX8_readNot_22 : decode cX8_readNot 22 = .ok (.iinc 2 1, 3) := by decide +kernel
theorem dX8_readNot_25 : decode cX8_readNot 25 = .ok (.aload_n 0, 1) := by decide +kernel
theorem dX8_readNot_26 : decode cX8_readNot 26 = .ok (.getfield 199, 3) := by decide +kernel
theorem dX8_readNot_29 : decode cX8_readNot 29 = .ok (.ifCond .ne (-27), 3) := by decide +kernel
theorem dX8_readNot_32 : decode cX8_readNot 32 = .ok (.aload_n 0, 1) := by decide +kernel
theorem dX8_readNot_33 : decode cX8_readNot 33 = .ok (.invokevirtual 224, 3) := by decide +kernel
theorem dX8_readNot_36 : decode cX8_readNot 36 = .ok (.goto (-34), 3) := by decide +kernel
theorem dX8_readNot_39 : decode cX8_readNot 39 = .ok (.aload_n 0, 1) := by decide +kernel
theorem dX8_readNot_40 : decode cX8_readNot 40 = .ok (.iload_n 1, 1) := by decide +kernel
theorem dX8_readNot_41 : decode cX8_readNot 41 = .ok (.invokevirtual 254, 3) := by decide +kernel
theorem dX8_readNot_44 : decode cX8_readNot 44 = .ok (.aload_n 0, 1) := by decide +kernel
theorem dX8_readNot_45 : decode cX8_readNot 45 = .ok (.bipush 60, 2) := by decide +kernel
theorem dX8_readNot_47 : decode cX8_readNot 47 = .ok (.invokevirtual 217, 3) := by decide +kernel
theorem dX8_readNot_50 : decode cX8_readNot 50 = .ok (.ifCond .ne 12, 3) := by decide +kernel
theorem dX8_readNot_53 : decode cX8_readNot 53 = .ok (.aload_n 0, 1) := by decide +kernel
theorem dX8_readNot_54 : decode cX8_readNot 54 = .ok (.bipush 61, 2) := by decide +kernel
theorem dX8_readNot_56 : decode cX8_readNot 56 = .ok (.invokevirtual 217, 3) := by decide +kernel
theorem dX8_readNot_59 : decode cX8_readNot 59 = .ok (.ifCond .eq 34, 3) := by decide +kernel
theorem dX8_readNot_62 : decode cX8_readNot 62 = .ok (.aload_n 0, 1) := by decide +kernel
theorem dX8_readNot_63 : decode cX8_readNot 63 = .ok (.bipush 60, 2) := by decide +kernel
theorem dX8_readNot_65 : decode cX8_readNot 65 = .ok (.invokevirtual 217, 3) := by decide +kernel
theorem dX8_readNot_68 : decode cX8_readNot 68 = .ok (.ifCond .eq 8, 3) := by decide +kernel
theorem dX8_readNot_71 : decode cX8_readNot 71 = .ok (.bipush (-24), 2) := by decide +kernel
theorem dX8_readNot_73 : decode cX8_readNot 73 = .ok (.goto 5, 3) := by decide +kernel
theorem dX8_readNot_76 : decode cX8_readNot 76 = .ok (.bipush (-25), 2) := by decide +kernel
theorem dX8_readNot_78 : decode cX8_readNot 78 = .ok (.istore_n 3, 1) := by decide +kernel
theorem dX8_readNot_79 : decode cX8_readNot 79 = .ok (.aload_n 0, 1) := by decide +kernel
theorem dX8_readNot_80 : decode cX8_readNot 80 = .ok (.invokevirtual 224, 3) := by decide +kernel
theorem dX8_readNot_83 : decode cX8_readNot 83 = .ok (.aload_n 0, 1) := by decide +kernel
theorem dX8_readNot_84 : decode cX8_readNot 84 = .ok (.iload_n 1, 1) := by decide +kernel
theorem dX8_readNot_85 : decode cX8_readNot 85 = .ok (.invokevirtual 254, 3) := by decide +kernel
theorem dX8_readNot_88 : decode cX8_readNot 88 = .ok (.aload_n 0, 1) := by decide +kernel
theorem dX8_readNot_89 : decode cX8_readNot 89 = .ok (.iload_n 3, 1) := by decide +kernel
theorem dX8_readNot_90 : decode cX8_readNot 90 = .ok (.invokevirtual 233, 3) := by decide +kernel
theorem dX8_readNot_93 : decode cX8_readNot 93 = .ok (.iconst 0, 1) := by decide +kernel
theorem dX8_readNot_94 : decode cX8_readNot 94 = .ok (.istore_n 3, 1) := by decide +kernel
theorem dX8_readNot_95 : decode cX8_readNot 95 = .ok (.iload_n 3, 1) := by decide +kernel
theorem dX8_readNot_96 : decode cX8_readNot 96 = .ok (.iload_n 2, 1) := by decide +kernel
theorem dX8_readNot_97 : decode cX8_readNot 97 = .ok (.if_icmp .ge 15, 3) := by decide +kernel
theorem dX8_readNot_100 : decode cX8_readNot 100 = .ok (.aload_n 0, 1) := by decide +kernel
theorem dX8_readNot_101 : decode cX8_readNot 101 = .ok (.bipush (-28), 2) := by decide +kernel
theorem dX8_readNot_103 : decode cX8_readNot 103 = .ok (.invokevirtual 233, 3) := by decide +kernel
theorem dX8_readNot_106 : decode cX8_readNot 106 = .ok (.iinc 3 1, 3) := by decide +kernel
theorem dX8_readNot_109 : decode cX8_readNot 109 = .ok (.goto (-14), 3) := by decide +kernel
theorem dX8_readNot_112 : decode cX8_readNot 112 = .ok (.return_, 1) := by decide +kernel
theorem dX8_readAnd_0 : decode cX8_readAnd 0 = .ok (.aload_n 0, 1) := by decide +kernel
theorem dX8_readAnd_1 : decode cX8_readAnd 1 = .ok (.iload_n 1, 1) := by decide +kernel
theorem dX8_readAnd_2 : decode cX8_readAnd 2 = .ok (.invokevirtual 257, 3) := by decide +kernel
theorem dX8_readAnd_5 : decode cX8_readAnd 5 = .ok (.aload_n 0, 1) := by decide +kernel
theorem dX8_readAnd_6 : decode cX8_readAnd 6 = .ok (.ldc_w 260, 3) := by decide +kernel
theorem dX8_readAnd_9 : decode cX8_readAnd 9 = .ok (.invokevirtual 213, 3) := by decide +kernel
theorem dX8_readAnd_12 : decode cX8_readAnd 12 = .ok (.ifCond .eq 21, 3) := by decide +kernel
theorem dX8_readAnd_15 : decode cX8_readAnd 15 = .ok (.aload_n 0, 1) := by decide +kernel
theorem dX8_readAnd_16 : decode cX8_readAnd 16 = .ok (.invokevirtual 224, 3) := by decide +kernel
theorem dX8_readAnd_19 : decode cX8_readAnd 19 = .ok (.aload_n 0, 1) := by decide +kernel
theorem dX8_readAnd_20 : decode cX8_readAnd 20 = .ok (.iload_n 1, 1) := by decide +kernel
theorem dX8_readAnd_21 : decode cX8_readAnd 21 = .ok (.invokevirtual 257, 3) := by decide +kernel
theorem dX8_readAnd_24 : decode cX8_readAnd 24 = .ok (.aload_n 0, 1) := by decide +kernel
theorem dX8_readAnd_25 : decode cX8_readAnd 25 = .ok (.bipush (-26), 2) := by decide +kernel
theorem dX8_readAnd_27 : decode cX8_readAnd 27 = .ok (.invokevirtual 233, 3) := by decide +kernel
theorem dX8_readAnd_30 : decode cX8_readAnd 30 = .ok (.goto (-25), 3) := by decide +kernel
theorem dX8_readAnd_33 : decode cX8_readAnd 33 = .ok (.return_, 1) := by decide +kernel
theorem dX8_readExpression_0 : decode cX8_readExpression 0 = .ok (.aload_n 0, 1) := by decide +kernel
theorem dX8_readExpression_1 : decode cX8_readExpression 1 = .ok (.getfield 199, 3) := by decide +kernel
theorem dX8_readExpression_4 : decode cX8_readExpression 4 = .ok (.ifCond .eq 4, 3) := by decide +kernel
theorem dX8_readExpression_7 : decode cX8_readExpression 7 = .ok (.return_, 1) := by decide +kernel
theorem dX8_readExpression_8 : decode cX8_readExpression 8 = .ok (.aload_n 0, 1) := by decide +kernel
theorem dX8_readExpression_9 : decode cX8_readExpression 9 = .ok (.getfield 173, 3) := by decide +kernel
theorem dX8_readExpression_12 : decode cX8_readExpression 12 = .ok (.iconst 2, 1) := by decide +kernel
theorem dX8_readExpression_13 : decode cX8_readExpression 13 = .ok (.if_icmp .eq 20, 3) := by decide +kernel
theorem dX8_readExpression_16 : decode cX8_readExpression 16 = .ok (.aload_n 0, 1) := by decide +kernel
theorem dX8_readExpression_17 : decode cX8_readExpression 17 = .ok (.getfield 173, 3) := by decide +kernel
theorem dX8_readExpression_20 : decode cX8_readExpression 20 = .ok (.iconst 1, 1) := by decide +kernel
theorem dX8_readExpression_21 : decode cX8_readExpression 21 = .ok (.if_icmp .eq 12, 3) := by decide +kernel
theorem dX8_readExpression_24 : decode cX8_readExpression 24 = .ok (.aload_n 0, 1) := by decide +kernel
theorem dX8_readExpression_25 : decode cX8_readExpression 25 = .ok (.bipush 40, 2) := by decide +kernel
theorem dX8_readExpression_27 : decode cX8_readExpression 27 = .ok (.invokevirtual 217, 3) := by decide +kernel
theorem dX8_readExpression_30 : decode cX8_readExpression 30 = .ok (.ifCond .eq 7, 3) := by decide +kernel
theorem dX8_readExpression_33 : decode cX8_readExpression 33 = .ok (.iconst 1, 1) := by decide +kernel
theorem dX8_readExpression_34 : decode cX8_readExpression 34 = .ok (.goto 4, 3) := by decide +kernel
theorem dX8_readExpression_37 : decode cX8_readExpression 37 = .ok (.iconst 0, 1) := by decide +kernel
theorem dX8_readExpression_38 : decode cX8_readExpression 38 = .ok (.istore_n 2, 1) := by decide +kernel
theorem dX8_readExpression_39 : decode cX8_readExpression 39 = .ok (.iload_n 2, 1) := by decide +kernel
theorem dX8_readExpression_40 : decode cX8_readExpression 40 = .ok (.ifCond .ne 11, 3) := by decide +kernel
theorem dX8_readExpression_43 : decode cX8_readExpression 43 = .ok (.aload_n 0, 1) := by decide +kernel
theorem dX8_readExpression_44 : decode cX8_readExpression 44 = .ok (.iconst 1, 1) := by decide +kernel
theorem dX8_readExpression_45 : decode cX8_readExpression 45 = .ok (.invokevirtual 220, 3) := by decide +kernel
theorem dX8_readExpression_48 : decode cX8_readExpression 48 = .ok (.goto 14, 3) := by decide +kernel
theorem dX8_readExpression_51 : decode cX8_readExpression 51 = .ok (.iload_n 1, 1) := by decide +kernel
theorem dX8_readExpression_52 : decode cX8_readExpression 52 = .ok (.bipush 6, 2) := by decide +kernel
theorem dX8_readExpression_54 : decode cX8_readExpression 54 = .ok (.if_icmp .ne 8, 3) := by decide +kernel
theorem dX8_readExpression_57 : decode cX8_readExpression 57 = .ok (.aload_n 0, 1) := by decide +kernel
theorem dX8_readExpression_58 : decode cX8_readExpression 58 = .ok (.iconst 2, 1) := by decide +kernel
theorem dX8_readExpression_59 : decode cX8_readExpression 59 = .ok (.invokevirtual 220, 3) := by decide +kernel
theorem dX8_readExpression_62 : decode cX8_readExpression 62 = .ok (.aload_n 0, 1) := by decide +kernel
theorem dX8_readExpression_63 : decode cX8_readExpression 63 = .ok (.iload_n 1, 1) := by decide +kernel
theorem dX8_readExpression_64 : decode cX8_readExpression 64 = .ok (.invokevirtual 262, 3) := by decide +kernel
theorem dX8_readExpression_67 : decode cX8_readExpression 67 = .ok (.aload_n 0, 1) := by decide +kernel
theorem dX8_readExpression_68 : decode cX8_readExpression 68 = .ok (.ldc_w 265, 3) := by decide +kernel
theorem dX8_readExpression_71 : decode cX8_readExpression 71 = .ok (.invokevirtual 213, 3) := by decide +kernel
theorem dX8_readExpression_74 : decode cX8_readExpression 74 = .ok (.ifCond .eq 21, 3) := by decide +kernel
theorem dX8_readExpression_77 : decode cX8_readExpression 77 = .ok (.aload_n 0, 1) := by decide +kernel
theorem dX8_readExpression_78 : decode cX8_readExpression 78 = .ok (.invokevirtual 224, 3) := by decide +kernel
theorem dX8_readExpression_81 : decode cX8_readExpression 81 = .ok (.aload_n 0, 1) := by decide +kernel
theorem dX8_readExpression_82 : decode cX8_readExpression 82 = .ok (.iload_n 1, 1) := by decide +kernel
theorem dX8_readExpression_83 : decode cX8_readExpression 83 = .ok (.invokevirtual 262, 3) := by decide +kernel
theorem dX8_readExpression_86 : decode cX8_readExpression 86 = .ok (.aload_n 0, 1) := by decide +kernel
theorem dX8_readExpression_87 : decode cX8_readExpression 87 = .ok (.bipush (-27), 2) := by decide +kernel
theorem dX8_readExpression_89 : decode cX8_readExpression 89 = .ok (.invokevirtual 233, 3) := by decide +kernel
theorem dX8_readExpression_92 : decode cX8_readExpression 92 = .ok (.goto (-25), 3) := by decide +kernel
theorem dX8_readExpression_95 : decode cX8_readExpression 95 = .ok (.return_, 1) := by decide +kernel
theorem dX8_readPart_0 : decode cX8_readPart 0 = .ok (.aload_n 0, 1) := by decide +kernel
theorem dX8_readPart_1 : decode cX8_readPart 1 = .ok (.getfield 199, 3) := by decide +kernel
theorem dX8_readPart_4 : decode cX8_readPart 4 = .ok (.ifCond .eq 4, 3) := by decide +kernel
theorem dX8_readPart_7 : decode cX8_readPart 7 = .ok (.return_, 1) := by decide +kernel
theorem dX8_readPart_8 : decode cX8_readPart 8 = .ok (.aload_n 0, 1) := by decide +kernel
theorem dX8_readPart_9 : decode cX8_readPart 9 = .ok (.getfield 173, 3) := by decide +kernel
theorem dX8_readPart_12 : decode cX8_readPart 12 = .ok (.iconst 2, 1) := by decide +kernel
theorem dX8_readPart_13 : decode cX8_readPart 13 = .ok (.if_icmp .ne 16, 3) := by decide +kernel
theorem dX8_readPart_16 : decode cX8_readPart 16 = .ok (.aload_n 0, 1) := by decide +kernel
theorem dX8_readPart_17 : decode cX8_readPart 17 = .ok (.aload_n 0, 1) := by decide +kernel
theorem dX8_readPart_18 : decode cX8_readPart 18 = .ok (.iconst 0, 1) := by decide +kernel
theorem dX8_readPart_19 : decode cX8_readPart 19 = .ok (.sipush 9999, 3) := by decide +kernel
theorem dX8_readPart_22 : decode cX8_readPart 22 = .ok (.invokevirtual 230, 3) := by decide +kernel
theorem dX8_readPart_25 : decode cX8_readPart 25 = .ok (.invokevirtual 233, 3) := by decide +kernel
theorem dX8_readPart_28 : decode cX8_readPart 28 = .ok (.return_, 1) := by decide +kernel
theorem dX8_readPart_29 : decode cX8_readPart 29 = .ok (.aload_n 0, 1) := by decide +kernel
theorem dX8_readPart_30 : decode cX8_readPart 30 = .ok (.getfield 173, 3) := by decide +kernel
theorem dX8_readPart_33 : decode cX8_readPart 33 = .ok (.iconst 1, 1) := by decide +kernel
theorem dX8_readPart_34 : decode cX8_readPart 34 = .ok (.if_icmp .ne 41, 3) := by decide +kernel
theorem dX8_readPart_37 : decode cX8_readPart 37 = .ok (.aload_n 0, 1) := by decide +kernel
theorem dX8_readPart_38 : decode cX8_readPart 38 = .ok (.aload_n 0, 1) := by decide +kernel
theorem dX8_readPart_39 : decode cX8_readPart 39 = .ok (.getfield 31, 3) := by decide +kernel
theorem dX8_readPart_42 : decode cX8_readPart 42 = .ok (.invokevirtual 236, 3) := by decide +kernel
theorem dX8_readPart_45 : decode cX8_readPart 45 = .ok (.istore_n 2, 1) := by decide +kernel
theorem dX8_readPart_46 : decode cX8_readPart 46 = .ok (.iload_n 2, 1) := by decide +kernel
theorem dX8_readPart_47 : decode cX8_readPart 47 = .ok (.iconst (-1), 1) := by decide +kernel
theorem dX8_readPart_48 : decode cX8_readPart 48 = .ok (.if_icmp .ne 8, 3) := by decide +kernel
theorem dX8_readPart_51 : decode cX8_readPart 51 = .ok (.aload_n 0, 1) := by decide +kernel
theorem dX8_readPart_52 : decode cX8_readPart 52 = .ok (.iconst 3, 1) := by decide +kernel
theorem dX8_readPart_53 : decode cX8_readPart 53 = .ok (.invokevirtual 220, 3) := by decide +kernel
theorem dX8_readPart_56 : decode cX8_readPart 56 = .ok (.aload_n 0, 1) := by decide +kernel
theorem dX8_readPart_57 : decode cX8_readPart 57 = .ok (.iconst (-1), 1) := by decide +kernel
theorem dX8_readPart_58 : decode cX8_readPart 58 = .ok (.iload_n 2, 1) := by decide +kernel
theorem dX8_readPart_59 : decode cX8_readPart 59 = .ok (.isub, 1) := by decide +kernel
theorem dX8_readPart_60 : decode cX8_readPart 60 = .ok (.invokevirtual 233, 3) := by decide +kernel
theorem dX8_readPart_63 : decode cX8_readPart 63 = .ok (.aload_n 0, 1) := by decide +kernel
theorem dX8_readPart_64 : decode cX8_readPart 64 = .ok (.getfield 199, 3) := by decide +kernel
theorem dX8_readPart_67 : decode cX8_readPart 67 = .ok (.ifCond .ne 7, 3) := by decide +kernel
theorem dX8_readPart_70 : decode cX8_readPart 70 = .ok (.aload_n 0, 1) := by decide +kernel
theorem dX8_readPart_71 : decode cX8_readPart 71 = .ok (.invokevirtual 224, 3) := by decide +kernel
theorem dX8_readPart_74 : decode cX8_readPart 74 = .ok (.return_, 1) := by decide +kernel
theorem dX8_readPart_75 : decode cX8_readPart 75 = .ok (.aload_n 0, 1) := by decide +kernel
theorem dX8_readPart_76 : decode cX8_readPart 76 = .ok (.bipush 40, 2) := by decide +kernel
theorem dX8_readPart_78 : decode cX8_readPart 78 = .ok (.invokevirtual 240, 3) := by decide +kernel
theorem dX8_readPart_81 : decode cX8_readPart 81 = .ok (.aload_n 0, 1) := by decide +kernel
theorem dX8_readPart_82 : decode cX8_readPart 82 = .ok (.iload_n 1, 1) := by decide +kernel
theorem dX8_readPart_83 : decode cX8_readPart 83 = .ok (.iconst 1, 1) := by decide +kernel
theorem dX8_readPart_84 : decode cX8_readPart 84 = .ok (.iadd, 1) := by decide +kernel
theorem dX8_readPart_85 : decode cX8_readPart 85 = .ok (.invokevirtual 243, 3) := by decide +kernel
theorem dX8_readPart_88 : decode cX8_readPart 88 = .ok (.aload_n 0, 1) := by decide +kernel
theorem dX8_readPart_89 : decode cX8_readPart 89 = .ok (.bipush 41, 2) := by decide +kernel
theorem dX8_readPart_91 : decode cX8_readPart 91 = .ok (.invokevirtual 240, 3) := by decide +kernel
theorem dX8_readPart_94 : decode cX8_readPart 94 = .ok (.return_, 1) := by decide +kernel
def f_X8_numberNow_59   (I : Mem) : Option (Int32 × Mem) :=
  if (I 8 0 0 21) = 0 then (some ((I 8 0 0 18), I)) else (some ((0 : Int32), I))
theorem b_X8_numberNow_59 (X : CX) (Q : State → Prop) {I : Mem} {P : PMem} {O : Nat → Int64} {D : Bool} {n : Nat} {r : (Int32 × Mem)}  (h : f_X8_numberNow_59 I = some r) (E : EndR X cX8_numberNow RX8 3 (some .int) 3 n (some (.inl r.1)) r.2 P O D Q) : Here X cX8_numberNow RX8 3 (some .int) 3 n 59 [some (.inr (.inr (8, 0, 0))), none, none] [] I P O D n Q := by
  unfold f_X8_numberNow_59 at h
  refine h_aload_n dX8_numberNow_59 rfl ?_
  refine g_X8_199  dX8_numberNow_60 ?_
  refine h_if_ne (tgt := 73) dX8_numberNow_63 (by decide) (fun q1 => ?_) (fun q1 => ?_)
  · rw [if_neg q1] at h
    refine h_iconst (0 : Int32) dX8_numberNow_73 k_iconst_0 ?_
    cases h
    exact h_iret dX8_numberNow_74 rfl E
  · rw [if_pos q1] at h
    refine h_aload_n dX8_numberNow_66 rfl ?_
    refine g_X8_183  dX8_numberNow_67 ?_
    refine h_goto (tgt := 74) dX8_numberNow_70 (by decide) ?_
    cases h
    exact h_iret dX8_numberNow_74 rfl E
def f_X8_numberNow_54   (I : Mem) : Option (Int32 × Mem) :=
  (f_X8_wrong I (2 : Int32)).bind fun y1 =>
  f_X8_numberNow_59 y1
theorem b_X8_numberNow_54 (X : CX) (Q : State → Prop) {I : Mem} {P : PMem} {O : Nat → Int64} {D : Bool} {n : Nat} {r : (Int32 × Mem)}  (h : f_X8_numberNow_54 I = some r) (E : EndR X cX8_numberNow RX8 3 (some .int) 3 n (some (.inl r.1)) r.2 P O D Q) : Here X cX8_numberNow RX8 3 (some .int) 3 n 54 [some (.inr (.inr (8, 0, 0))), none, none] [] I P O D n Q := by
  unfold f_X8_numberNow_54 at h
  refine h_aload_n dX8_numberNow_54 rfl ?_
  refine h_iconst (2 : Int32) dX8_numberNow_55 k_iconst_2 ?_
  obtain ⟨y1, hh1, h⟩ := obd_some h
  refine h_cVv [.inl (2 : Int32)] (m_X8_wrong  hh1) cw_X8_220 dX8_numberNow_56 rfl ok_8 (by decide) rfl (Or.inr rfl) rfl ?_
  exact (b_X8_numberNow_59 X Q  h E)
def f_X8_numberNow   (I : Mem) (v1 : Int32) (v2 : Int32) : Option (Int32 × Mem) :=
  if (I 8 0 0 21) = 0 then (if (I 8 0 0 17) = (2 : Int32) then (if (4 : Int32) < ((I 8 0 0 20) - (I 8 0 0 19)) then (f_X8_numberNow_54 I) else (if (I 8 0 0 18) < v1 then (f_X8_numberNow_54 I) else (if (I 8 0 0 18) ≤ v2 then (f_X8_numberNow_59 I) else (f_X8_numberNow_54 I)))) else ((f_X8_wrong I (1 : Int32)).bind fun y1 =>
  f_X8_numberNow_59 y1)) else (some ((0 : Int32), I))
theorem b_X8_numberNow (X : CX) (Q : State → Prop) {I : Mem} {P : PMem} {O : Nat → Int64} {D : Bool} {n : Nat} {v1 : Int32} {v2 : Int32} {r : (Int32 × Mem)}  (h : f_X8_numberNow I v1 v2 = some r) (E : EndR X cX8_numberNow RX8 3 (some .int) 3 n (some (.inl r.1)) r.2 P O D Q) : Here X cX8_numberNow RX8 3 (some .int) 3 n 0 [some (.inr (.inr (8, 0, 0))), some (.inl v1), some (.inl v2)] [] I P O D n Q := by
  unfold f_X8_numberNow at h
  refine h_aload_n dX8_numberNow_0 rfl ?_
  refine g_X8_199  dX8_numberNow_1 ?_
  refine h_if_eq (tgt := 9) dX8_numberNow_4 (by decide) (fun q1 => ?_) (fun q1 => ?_)
  · rw [if_pos q1] at h
    refine h_aload_n dX8_numberNow_9 rfl ?_
    refine g_X8_173  dX8_numberNow_10 ?_
    refine h_iconst (2 : Int32) dX8_numberNow_13 k_iconst_2 ?_
    refine h_icmp_eq (tgt := 25) dX8_numberNow_14 (by decide) (fun q2 => ?_) (fun q2 => ?_)
    · rw [if_pos q2] at h
      refine h_aload_n dX8_numberNow_25 rfl ?_
      refine g_X8_196  dX8_numberNow_26 ?_
      refine h_aload_n dX8_numberNow_29 rfl ?_
      refine g_X8_170  dX8_numberNow_30 ?_
      refine h_isub dX8_numberNow_33 ?_
      refine h_iconst (4 : Int32) dX8_numberNow_34 k_iconst_4 ?_
      refine h_icmp_gt (tgt := 54) dX8_numberNow_35 (by decide) (fun q3 => ?_) (fun q3 => ?_)
      · rw [if_pos q3] at h
        exact h_mask [true, false, false] (b_X8_numberNow_54 X Q  h E)
      · rw [if_neg q3] at h
        refine h_aload_n dX8_numberNow_38 rfl ?_
        refine g_X8_183  dX8_numberNow_39 ?_
        refine h_iload_n dX8_numberNow_42 rfl ?_
        refine h_icmp_lt (tgt := 54) dX8_numberNow_43 (by decide) (fun q4 => ?_) (fun q4 => ?_)
        · rw [if_pos q4] at h
          exact h_mask [true, false, false] (b_X8_numberNow_54 X Q  h E)
        · rw [if_neg q4] at h
          refine h_aload_n dX8_numberNow_46 rfl ?_
          refine g_X8_183  dX8_numberNow_47 ?_
          refine h_iload_n dX8_numberNow_50 rfl ?_
          refine h_icmp_le (tgt := 59) dX8_numberNow_51 (by decide) (fun q5 => ?_) (fun q5 => ?_)
          · rw [if_pos q5] at h
            exact h_mask [true, false, false] (b_X8_numberNow_59 X Q  h E)
          · rw [if_neg q5] at h
            exact h_mask [true, false, false] (b_X8_numberNow_54 X Q  h E)
    · rw [if_neg q2] at h
      refine h_aload_n dX8_numberNow_17 rfl ?_
      refine h_iconst (1 : Int32) dX8_numberNow_18 k_iconst_1 ?_
      obtain ⟨y1, hh1, h⟩ := obd_some h
      refine h_cVv [.inl (1 : Int32)] (m_X8_wrong  hh1) cw_X8_220 dX8_numberNow_19 rfl ok_8 (by decide) rfl (Or.inr rfl) rfl ?_
      refine h_goto (tgt := 59) dX8_numberNow_22 (by decide) ?_
      exact h_mask [true, false, false] (b_X8_numberNow_59 X Q  h E)
  · rw [if_neg q1] at h
    refine h_iconst (0 : Int32) dX8_numberNow_7 k_iconst_0 ?_
    cases h
    exact h_iret dX8_numberNow_8 rfl E
theorem m_X8_numberNow {I : Mem} {P : PMem} {O : Nat → Int64} {D : Bool} {n : Nat} {v1 : Int32} {v2 : Int32} {r : (Int32 × Mem)}  (h : f_X8_numberNow I v1 v2 = some r) : MethR yX8_numberNow cX8_numberNow 3 (some .int) 3 [.inr (.inr (8, 0, 0)), .inl v1, .inl v2] I P O D n (some (.inl r.1)) r.2 P O D n := meth_R (Nat.le_refl _) (by decide) rfl (Nat.le_of_ble_eq_true rfl) rfl (fun X Q E => b_X8_numberNow X Q  h E)
def f_X8_readNumber   (I : Mem) (v1 : Int32) (v2 : Int32) : Option (Int32 × Mem) :=
  (f_X8_numberNow I v1 v2).bind fun y1 =>
  if (y1.2 8 0 0 21) = 0 then ((f_X8_stepOn y1.2).bind fun y2 =>
  some (y1.1, y2)) else (some (y1.1, y1.2))
theorem b_X8_readNumber (X : CX) (Q : State → Prop) {I : Mem} {P : PMem} {O : Nat → Int64} {D : Bool} {n : Nat} {v1 : Int32} {v2 : Int32} {r : (Int32 × Mem)}  (h : f_X8_readNumber I v1 v2 = some r) (E : EndR X cX8_readNumber RX8 4 (some .int) 4 n (some (.inl r.1)) r.2 P O D Q) : Here X cX8_readNumber RX8 4 (some .int) 4 n 0 [some (.inr (.inr (8, 0, 0))), some (.inl v1), some (.inl v2), none] [] I P O D n Q := by
  unfold f_X8_readNumber at h
  refine h_aload_n dX8_readNumber_0 rfl ?_
  refine h_iload_n dX8_readNumber_1 rfl ?_
  refine h_iload_n dX8_readNumber_2 rfl ?_
  obtain ⟨y1, hh1, h⟩ := obd_some h
  refine h_cVi [.inl v1, .inl v2] (m_X8_numberNow  hh1) cw_X8_227 dX8_readNumber_3 rfl ok_8 (by decide) rfl (Or.inr rfl) rfl ?_
  refine h_istore_n dX8_readNumber_6 (by decide) rfl ?_
  refine h_aload_n dX8_readNumber_7 rfl ?_
  refine g_X8_199  dX8_readNumber_8 ?_
  refine h_if_ne (tgt := 18) dX8_readNumber_11 (by decide) (fun q1 => ?_) (fun q1 => ?_)
  · rw [if_neg q1] at h
    refine h_iload_n dX8_readNumber_18 rfl ?_
    cases h
    exact h_iret dX8_readNumber_19 rfl E
  · rw [if_pos q1] at h
    refine h_aload_n dX8_readNumber_14 rfl ?_
    obtain ⟨y2, hh2, h⟩ := obd_some h
    refine h_cVv [] (m_X8_stepOn  hh2) cw_X8_224 dX8_readNumber_15 rfl ok_8 (by decide) rfl (Or.inr rfl) rfl ?_
    refine h_iload_n dX8_readNumber_18 rfl ?_
    cases h
    exact h_iret dX8_readNumber_19 rfl E
theorem m_X8_readNumber {I : Mem} {P : PMem} {O : Nat → Int64} {D : Bool} {n : Nat} {v1 : Int32} {v2 : Int32} {r : (Int32 × Mem)}  (h : f_X8_readNumber I v1 v2 = some r) : MethR yX8_readNumber cX8_readNumber 4 (some .int) 4 [.inr (.inr (8, 0, 0)), .inl v1, .inl v2] I P O D n (some (.inl r.1)) r.2 P O D n := meth_R (Nat.le_refl _) (by decide) rfl (Nat.le_of_ble_eq_true rfl) rfl (fun X Q E => b_X8_readNumber X Q  h E)
def f_X8_townNow_32   (I : Mem) (v1 : Int32) : Option (Int32 × Mem) :=
  if (I 8 0 0 21) = 0 then (some (v1, I)) else (some ((0 : Int32), I))
theorem b_X8_townNow_32 (X : CX) (Q : State → Prop) {I : Mem} {P : PMem} {O : Nat → Int64} {D : Bool} {n : Nat} {v1 : Int32} {r : (Int32 × Mem)}  (h : f_X8_townNow_32 I v1 = some r) (E : EndR X cX8_townNow RX8 2 (some .int) 4 n (some (.inl r.1)) r.2 P O D Q) : Here X cX8_townNow RX8 2 (some .int) 4 n 32 [some (.inr (.inr (8, 0, 0))), some (.inl v1)] [] I P O D n Q := by
  unfold f_X8_townNow_32 at h
  refine h_aload_n dX8_townNow_32 rfl ?_
  refine g_X8_199  dX8_townNow_33 ?_
  refine h_if_ne (tgt := 43) dX8_townNow_36 (by decide) (fun q1 => ?_) (fun q1 => ?_)
  · rw [if_neg q1] at h
    refine h_iconst (0 : Int32) dX8_townNow_43 k_iconst_0 ?_
    cases h
    exact h_iret dX8_townNow_44 rfl E
  · rw [if_pos q1] at h
    refine h_iload_n dX8_townNow_39 rfl ?_
    refine h_goto (tgt := 44) dX8_townNow_40 (by decide) ?_
    cases h
    exact h_iret dX8_townNow_44 rfl E
def f_X8_townNow   (I : Mem) : Option (Int32 × Mem) :=
  (f_X8_numberNow I (0 : Int32) (9999 : Int32)).bind fun y1 =>
  if (y1.2 8 0 0 21) = 0 then (if y1.1 < (y1.2 50 0 0 7) then (f_X8_townNow_32 y1.2 y1.1) else ((f_X8_wrong y1.2 (3 : Int32)).bind fun y2 =>
  f_X8_townNow_32 y2 y1.1)) else (f_X8_townNow_32 y1.2 y1.1)
theorem b_X8_townNow (X : CX) (Q : State → Prop) {I : Mem} {P : PMem} {O : Nat → Int64} {D : Bool} {n : Nat} {r : (Int32 × Mem)}  (h : f_X8_townNow I = some r) (E : EndR X cX8_townNow RX8 2 (some .int) 4 n (some (.inl r.1)) r.2 P O D Q) : Here X cX8_townNow RX8 2 (some .int) 4 n 0 [some (.inr (.inr (8, 0, 0))), none] [] I P O D n Q := by
  unfold f_X8_townNow at h
  refine h_aload_n dX8_townNow_0 rfl ?_
  refine h_iconst (0 : Int32) dX8_townNow_1 k_iconst_0 ?_
  refine h_sipush (9999 : Int32) dX8_townNow_2 k_sipush_9999 ?_
  obtain ⟨y1, hh1, h⟩ := obd_some h
  refine h_cVi [.inl (0 : Int32), .inl (9999 : Int32)] (m_X8_numberNow  hh1) cw_X8_227 dX8_townNow_5 rfl ok_8 (by decide) rfl (Or.inr rfl) rfl ?_
  refine h_istore_n dX8_townNow_8 (by decide) rfl ?_
  refine h_aload_n dX8_townNow_9 rfl ?_
  refine g_X8_199  dX8_townNow_10 ?_
  refine h_if_ne (tgt := 32) dX8_townNow_13 (by decide) (fun q1 => ?_) (fun q1 => ?_)
  · rw [if_neg q1] at h
    exact (b_X8_townNow_32 X Q  h E)
  · rw [if_pos q1] at h
    refine h_iload_n dX8_townNow_16 rfl ?_
    refine h_aload_n dX8_townNow_17 rfl ?_
    refine g_X8_34  dX8_townNow_18 ?_
    refine h_bipush (7 : Int32) dX8_townNow_21 k_bipush_7 ?_
    refine al_50  7 cl_7 dX8_townNow_23 rfl ?_
    refine h_icmp_lt (tgt := 32) dX8_townNow_24 (by decide) (fun q2 => ?_) (fun q2 => ?_)
    · rw [if_pos q2] at h
      exact (b_X8_townNow_32 X Q  h E)
    · rw [if_neg q2] at h
      refine h_aload_n dX8_townNow_27 rfl ?_
      refine h_iconst (3 : Int32) dX8_townNow_28 k_iconst_3 ?_
      obtain ⟨y2, hh2, h⟩ := obd_some h
      refine h_cVv [.inl (3 : Int32)] (m_X8_wrong  hh2) cw_X8_220 dX8_townNow_29 rfl ok_8 (by decide) rfl (Or.inr rfl) rfl ?_
      exact (b_X8_townNow_32 X Q  h E)
theorem m_X8_townNow {I : Mem} {P : PMem} {O : Nat → Int64} {D : Bool} {n : Nat}  {r : (Int32 × Mem)}  (h : f_X8_townNow I = some r) : MethR yX8_townNow cX8_townNow 2 (some .int) 4 [.inr (.inr (8, 0, 0))] I P O D n (some (.inl r.1)) r.2 P O D n := meth_R (Nat.le_refl _) (by decide) rfl (Nat.le_of_ble_eq_true rfl) rfl (fun X Q E => b_X8_townNow X Q  h E)
def f_X8_lay   (I : Mem) (v1 : Int32) : Option (Mem) :=
  if (I 8 0 0 21) = 0 then (gd (inb ((600 : Int32) + (I 50 0 0 13)) 1200) <|
  bnd (upd4 I 58 0 0 (((600 : Int32) + (I 50 0 0 13)).toNatClampNeg) v1) fun I1' =>
  bnd (upd4 I1' 50 0 0 13 ((I1' 50 0 0 13) + (1 : Int32))) fun I2' =>
  some I2') else (some I)
theorem b_X8_lay (X : CX) (Q : State → Prop) {I : Mem} {P : PMem} {O : Nat → Int64} {D : Bool} {n : Nat} {v1 : Int32} {r : (Mem)}  (h : f_X8_lay I v1 = some r) (E : EndR X cX8_lay RX8 2 (none) 2 n none r P O D Q) : Here X cX8_lay RX8 2 (none) 2 n 0 [some (.inr (.inr (8, 0, 0))), some (.inl v1)] [] I P O D n Q := by
  unfold f_X8_lay at h
  refine h_aload_n dX8_lay_0 rfl ?_
  refine g_X8_199  dX8_lay_1 ?_
  refine h_if_eq (tgt := 8) dX8_lay_4 (by decide) (fun q1 => ?_) (fun q1 => ?_)
  · rw [if_pos q1] at h
    refine h_aload_n dX8_lay_8 rfl ?_
    refine g_X8_57  dX8_lay_9 ?_
    refine h_sipush (600 : Int32) dX8_lay_12 k_sipush_600 ?_
    refine h_aload_n dX8_lay_15 rfl ?_
    refine g_X8_34  dX8_lay_16 ?_
    refine h_bipush (13 : Int32) dX8_lay_19 k_bipush_13 ?_
    refine al_50  13 cl_13 dX8_lay_21 rfl ?_
    refine h_iadd dX8_lay_22 ?_
    refine h_iload_n dX8_lay_23 rfl ?_
    obtain ⟨g1, h⟩ := gd_some h
    obtain ⟨I1', e1, h⟩ := bnd_some h
    refine as_58  (((600 : Int32) + (I 50 0 0 13)).toNatClampNeg) rfl dX8_lay_24 g1 ?_
    refine h_nmI e1 ?_
    refine h_aload_n dX8_lay_25 rfl ?_
    refine g_X8_34  dX8_lay_26 ?_
    refine h_bipush (13 : Int32) dX8_lay_29 k_bipush_13 ?_
    refine h_dup2 dX8_lay_31 (fun _ => rfl) (fun _ => rfl) ?_
    refine al_50  13 cl_13 dX8_lay_32 rfl ?_
    refine h_iconst (1 : Int32) dX8_lay_33 k_iconst_1 ?_
    refine h_iadd dX8_lay_34 ?_
    obtain ⟨I2', e2, h⟩ := bnd_some h
    refine as_50  13 cl_13 dX8_lay_35 rfl ?_
    refine h_nmI e2 ?_
    cases h
    exact h_vret dX8_lay_36 rfl E
  · rw [if_neg q1] at h
    cases h
    exact h_vret dX8_lay_7 rfl E
theorem m_X8_lay {I : Mem} {P : PMem} {O : Nat → Int64} {D : Bool} {n : Nat} {v1 : Int32} {r : (Mem)}  (h : f_X8_lay I v1 = some r) : MethR yX8_lay cX8_lay 2 (none) 2 [.inr (.inr (8, 0, 0)), .inl v1] I P O D n none r P O D n := meth_R (Nat.le_refl _) (by decide) rfl (Nat.le_of_ble_eq_true rfl) rfl (fun X Q E => b_X8_lay X Q  h E)
def f_X8_readProduct_39 (rc : Mem → Int32 → Option ((Mem) ⊕ Nat)) (k5 : Mem → Int32 → Option ((Mem) ⊕ Nat))  (I : Mem) (v1 : Int32) (s0 : Int32) : Option ((Mem) ⊕ Nat) :=
  (f_X8_stepOn I).bind fun y1 =>
  thb (f_X8_readPart rc y1 v1) fun y2 =>
  (f_X8_lay y2 s0).bind fun y3 =>
  k5 y3 v1
theorem b_X8_readProduct_39 (X : CX) (Q : State → Prop) (rc : Mem → Int32 → Option ((Mem) ⊕ Nat)) (dr : Nat) (Hrc : ∀ {I : Mem} {P : PMem} {O : Nat → Int64} {D : Bool} {n : Nat} {v1 : Int32} {r : (Mem)}, rc I v1 = some r → MethR yX8_readExpression cX8_readExpression 3 (none) dr [.inr (.inr (8, 0, 0)), .inl v1] I P O D n none r P O D n) {d : Nat} (hd : dr + 12 ≤ d) {I : Mem} {P : PMem} {O : Nat → Int64} {D : Bool} {n : Nat} {k5 : Mem → Int32 → Option ((Mem) ⊕ Nat)} {v1 : Int32} {s0 : Int32} {r : (Mem)}  (H5 : ∀ (I : Mem) (v1 : Int32), k5 I v1 = some (Sum.inl r) → Here X cX8_readProduct RX8 3 (none) d n 5 [some (.inr (.inr (8, 0, 0))), some (.inl v1), none] [] I P O D n Q) (h : f_X8_readProduct_39 rc k5 I v1 s0 = some (Sum.inl r)) (E : EndR X cX8_readProduct RX8 3 (none) d n none r P O D Q) : Here X cX8_readProduct RX8 3 (none) d n 39 [some (.inr (.inr (8, 0, 0))), some (.inl v1), none] [.inl s0] I P O D n Q := by
  unfold f_X8_readProduct_39 at h
  refine h_istore_n dX8_readProduct_39 (by decide) rfl ?_
  refine h_aload_n dX8_readProduct_40 rfl ?_
  obtain ⟨y1, hh1, h⟩ := obd_some h
  refine h_cVv [] (m_X8_stepOn  hh1) cw_X8_224 dX8_readProduct_41 rfl ok_8 (by omega) rfl (Or.inr rfl) rfl ?_
  refine h_aload_n dX8_readProduct_44 rfl ?_
  refine h_iload_n dX8_readProduct_45 rfl ?_
  obtain ⟨y2, hh2, h⟩ := thb_R h
  refine h_cVv [.inl v1] (m_X8_readPart (d := d - 1) rc dr Hrc (by omega)  hh2) cw_X8_246 dX8_readProduct_46 rfl ok_8 (by omega) rfl (Or.inr rfl) rfl ?_
  refine h_aload_n dX8_readProduct_49 rfl ?_
  refine h_iload_n dX8_readProduct_50 rfl ?_
  obtain ⟨y3, hh3, h⟩ := obd_some h
  refine h_cVv [.inl s0] (m_X8_lay  hh3) cw_X8_233 dX8_readProduct_51 rfl ok_8 (by omega) rfl (Or.inr rfl) rfl ?_
  refine h_goto (tgt := 5) dX8_readProduct_54 (by decide) ?_
  exact h_mask [true, true, false] (H5 _ _ h)
theorem bx_X8_readProduct_39 (X : CX) (Q : State → Prop) (rc : Mem → Int32 → Option ((Mem) ⊕ Nat)) (dr : Nat) (Hrc : ∀ {I : Mem} {P : PMem} {O : Nat → Int64} {D : Bool} {n : Nat} {v1 : Int32} {r : (Mem)}, rc I v1 = some r → MethR yX8_readExpression cX8_readExpression 3 (none) dr [.inr (.inr (8, 0, 0)), .inl v1] I P O D n none r P O D n) {d : Nat} (hd : dr + 12 ≤ d) {I : Mem} {P : PMem} {O : Nat → Int64} {D : Bool} {n : Nat} {k5 : Mem → Int32 → Option ((Mem) ⊕ Nat)} {v1 : Int32} {s0 : Int32} {r : Nat}  (H5 : ∀ (I : Mem) (v1 : Int32), k5 I v1 = some (Sum.inr r) → Here X cX8_readProduct RX8 3 (none) d (n + 1) 5 [some (.inr (.inr (8, 0, 0))), some (.inl v1), none] [] I P O D n Q) (h : f_X8_readProduct_39 rc k5 I v1 s0 = some (Sum.inr r)) (E : EndX X cX8_readProduct RX8 3 (none) d (n + 1) r I P O D Q) : Here X cX8_readProduct RX8 3 (none) d (n + 1) 39 [some (.inr (.inr (8, 0, 0))), some (.inl v1), none] [.inl s0] I P O D n Q := by
  unfold f_X8_readProduct_39 at h
  refine h_istore_n dX8_readProduct_39 (by decide) rfl ?_
  refine h_aload_n dX8_readProduct_40 rfl ?_
  obtain ⟨y1, hh1, h⟩ := obd_some h
  refine h_cVv [] (m_X8_stepOn  hh1) cw_X8_224 dX8_readProduct_41 rfl ok_8 (by omega) rfl (Or.inr rfl) rfl ?_
  refine h_aload_n dX8_readProduct_44 rfl ?_
  refine h_iload_n dX8_readProduct_45 rfl ?_
  rcases thb_X h with hh2 | ⟨y2, hh2, h⟩
  · exact h_callVX (as := [.inl v1]) (mx_X8_readPart  hh2) cw_X8_246 dX8_readProduct_46 rfl ok_8 (by omega) rfl rfl E
  refine h_cVv [.inl v1] (m_X8_readPart (d := d - 1) rc dr Hrc (by omega)  hh2) cw_X8_246 dX8_readProduct_46 rfl ok_8 (by omega) rfl (Or.inr rfl) rfl ?_
  refine h_aload_n dX8_readProduct_49 rfl ?_
  refine h_iload_n dX8_readProduct_50 rfl ?_
  obtain ⟨y3, hh3, h⟩ := obd_some h
  refine h_cVv [.inl s0] (m_X8_lay  hh3) cw_X8_233 dX8_readProduct_51 rfl ok_8 (by omega) rfl (Or.inr rfl) rfl ?_
  refine h_goto (tgt := 5) dX8_readProduct_54 (by decide) ?_
  exact h_mask [true, true, false] (H5 _ _ h)
def f_X8_readProduct_23 (rc : Mem → Int32 → Option ((Mem) ⊕ Nat)) (k5 : Mem → Int32 → Option ((Mem) ⊕ Nat))  (I : Mem) (v1 : Int32) : Option ((Mem) ⊕ Nat) :=
  (f_X8_isMarked I (42 : Int32)).bind fun y1 =>
  if y1 = 0 then (f_X8_readProduct_39 rc k5 I v1 (-23 : Int32)) else (f_X8_readProduct_39 rc k5 I v1 (-22 : Int32))
theorem b_X8_readProduct_23 (X : CX) (Q : State → Prop) (rc : Mem → Int32 → Option ((Mem) ⊕ Nat)) (dr : Nat) (Hrc : ∀ {I : Mem} {P : PMem} {O : Nat → Int64} {D : Bool} {n : Nat} {v1 : Int32} {r : (Mem)}, rc I v1 = some r → MethR yX8_readExpression cX8_readExpression 3 (none) dr [.inr (.inr (8, 0, 0)), .inl v1] I P O D n none r P O D n) {d : Nat} (hd : dr + 12 ≤ d) {I : Mem} {P : PMem} {O : Nat → Int64} {D : Bool} {n : Nat} {k5 : Mem → Int32 → Option ((Mem) ⊕ Nat)} {v1 : Int32} {r : (Mem)}  (H5 : ∀ (I : Mem) (v1 : Int32), k5 I v1 = some (Sum.inl r) → Here X cX8_readProduct RX8 3 (none) d n 5 [some (.inr (.inr (8, 0, 0))), some (.inl v1), none] [] I P O D n Q) (h : f_X8_readProduct_23 rc k5 I v1 = some (Sum.inl r)) (E : EndR X cX8_readProduct RX8 3 (none) d n none r P O D Q) : Here X cX8_readProduct RX8 3 (none) d n 23 [some (.inr (.inr (8, 0, 0))), some (.inl v1), none] [] I P O D n Q := by
  unfold f_X8_readProduct_23 at h
  refine h_aload_n dX8_readProduct_23 rfl ?_
  refine h_bipush (42 : Int32) dX8_readProduct_24 k_bipush_42 ?_
  obtain ⟨y1, hh1, h⟩ := obd_some h
  refine h_cVi [.inl (42 : Int32)] (m_X8_isMarked  hh1) cw_X8_217 dX8_readProduct_26 rfl ok_8 (by omega) rfl (Or.inr rfl) rfl ?_
  refine h_if_eq (tgt := 37) dX8_readProduct_29 (by decide) (fun q1 => ?_) (fun q1 => ?_)
  · rw [if_pos q1] at h
    refine h_bipush (-23 : Int32) dX8_readProduct_37 k_bipush_m23 ?_
    exact (b_X8_readProduct_39 X Q rc dr Hrc hd H5  h E)
  · rw [if_neg q1] at h
    refine h_bipush (-22 : Int32) dX8_readProduct_32 k_bipush_m22 ?_
    refine h_goto (tgt := 39) dX8_readProduct_34 (by decide) ?_
    exact (b_X8_readProduct_39 X Q rc dr Hrc hd H5  h E)
theorem bx_X8_readProduct_23 (X : CX) (Q : State → Prop) (rc : Mem → Int32 → Option ((Mem) ⊕ Nat)) (dr : Nat) (Hrc : ∀ {I : Mem} {P : PMem} {O : Nat → Int64} {D : Bool} {n : Nat} {v1 : Int32} {r : (Mem)}, rc I v1 = some r → MethR yX8_readExpression cX8_readExpression 3 (none) dr [.inr (.inr (8, 0, 0)), .inl v1] I P O D n none r P O D n) {d : Nat} (hd : dr + 12 ≤ d) {I : Mem} {P : PMem} {O : Nat → Int64} {D : Bool} {n : Nat} {k5 : Mem → Int32 → Option ((Mem) ⊕ Nat)} {v1 : Int32} {r : Nat}  (H5 : ∀ (I : Mem) (v1 : Int32), k5 I v1 = some (Sum.inr r) → Here X cX8_readProduct RX8 3 (none) d (n + 1) 5 [some (.inr (.inr (8, 0, 0))), some (.inl v1), none] [] I P O D n Q) (h : f_X8_readProduct_23 rc k5 I v1 = some (Sum.inr r)) (E : EndX X cX8_readProduct RX8 3 (none) d (n + 1) r I P O D Q) : Here X cX8_readProduct RX8 3 (none) d (n + 1) 23 [some (.inr (.inr (8, 0, 0))), some (.inl v1), none] [] I P O D n Q := by
  unfold f_X8_readProduct_23 at h
  refine h_aload_n dX8_readProduct_23 rfl ?_
  refine h_bipush (42 : Int32) dX8_readProduct_24 k_bipush_42 ?_
  obtain ⟨y1, hh1, h⟩ := obd_some h
  refine h_cVi [.inl (42 : Int32)] (m_X8_isMarked  hh1) cw_X8_217 dX8_readProduct_26 rfl ok_8 (by omega) rfl (Or.inr rfl) rfl ?_
  refine h_if_eq (tgt := 37) dX8_readProduct_29 (by decide) (fun q1 => ?_) (fun q1 => ?_)
  · rw [if_pos q1] at h
    refine h_bipush (-23 : Int32) dX8_readProduct_37 k_bipush_m23 ?_
    exact (bx_X8_readProduct_39 X Q rc dr Hrc hd H5  h E)
  · rw [if_neg q1] at h
    refine h_bipush (-22 : Int32) dX8_readProduct_32 k_bipush_m22 ?_
    refine h_goto (tgt := 39) dX8_readProduct_34 (by decide) ?_
    exact (bx_X8_readProduct_39 X Q rc dr Hrc hd H5  h E)
def f_X8_readProduct_5 (rc : Mem → Int32 → Option ((Mem) ⊕ Nat))   : Nat → Mem → Int32 → Option ((Mem) ⊕ Nat)
  | 0, _, _ => none
  | fu + 1, I, v1 =>
    (f_X8_isMarked I (42 : Int32)).bind fun y1 =>
    if y1 = 0 then ((f_X8_isMarked I (47 : Int32)).bind fun y2 =>
    if y2 = 0 then (some (Sum.inl I)) else (f_X8_readProduct_23 rc (f_X8_readProduct_5 rc fu) I v1)) else (f_X8_readProduct_23 rc (f_X8_readProduct_5 rc fu) I v1)
theorem b_X8_readProduct_5 (X : CX) (Q : State → Prop) (rc : Mem → Int32 → Option ((Mem) ⊕ Nat)) (dr : Nat) (Hrc : ∀ {I : Mem} {P : PMem} {O : Nat → Int64} {D : Bool} {n : Nat} {v1 : Int32} {r : (Mem)}, rc I v1 = some r → MethR yX8_readExpression cX8_readExpression 3 (none) dr [.inr (.inr (8, 0, 0)), .inl v1] I P O D n none r P O D n) {d : Nat} (hd : dr + 12 ≤ d) {P : PMem} {O : Nat → Int64} {D : Bool} {n : Nat} {r : (Mem)}  : ∀ (fu : Nat) {I : Mem} {v1 : Int32}, f_X8_readProduct_5 rc fu I v1 = some (Sum.inl r) → EndR X cX8_readProduct RX8 3 (none) d n none r P O D Q → Here X cX8_readProduct RX8 3 (none) d n 5 [some (.inr (.inr (8, 0, 0))), some (.inl v1), none] [] I P O D n Q := by
  intro fu
  induction fu with
  | zero => intro I v1 h E; cases h
  | succ fu ih =>
  intro I v1 h E
  have H5 : ∀ (I : Mem) (v1 : Int32), f_X8_readProduct_5 rc fu I v1 = some (Sum.inl r) → Here X cX8_readProduct RX8 3 (none) d n 5 [some (.inr (.inr (8, 0, 0))), some (.inl v1), none] [] I P O D n Q := fun _ _ b => ih b E
  simp only [f_X8_readProduct_5] at h
  refine h_aload_n dX8_readProduct_5 rfl ?_
  refine h_bipush (42 : Int32) dX8_readProduct_6 k_bipush_42 ?_
  obtain ⟨y1, hh1, h⟩ := obd_some h
  refine h_cVi [.inl (42 : Int32)] (m_X8_isMarked  hh1) cw_X8_217 dX8_readProduct_8 rfl ok_8 (by omega) rfl (Or.inr rfl) rfl ?_
  refine h_if_ne (tgt := 23) dX8_readProduct_11 (by decide) (fun q1 => ?_) (fun q1 => ?_)
  · rw [if_neg q1] at h
    exact (b_X8_readProduct_23 X Q rc dr Hrc hd H5  h E)
  · rw [if_pos q1] at h
    refine h_aload_n dX8_readProduct_14 rfl ?_
    refine h_bipush (47 : Int32) dX8_readProduct_15 k_bipush_47 ?_
    obtain ⟨y2, hh2, h⟩ := obd_some h
    refine h_cVi [.inl (47 : Int32)] (m_X8_isMarked  hh2) cw_X8_217 dX8_readProduct_17 rfl ok_8 (by omega) rfl (Or.inr rfl) rfl ?_
    refine h_if_eq (tgt := 57) dX8_readProduct_20 (by decide) (fun q2 => ?_) (fun q2 => ?_)
    · rw [if_pos q2] at h
      cases h
      exact h_vret dX8_readProduct_57 rfl E
    · rw [if_neg q2] at h
      exact (b_X8_readProduct_23 X Q rc dr Hrc hd H5  h E)
theorem bx_X8_readProduct_5 (X : CX) (Q : State → Prop) (rc : Mem → Int32 → Option ((Mem) ⊕ Nat)) (dr : Nat) (Hrc : ∀ {I : Mem} {P : PMem} {O : Nat → Int64} {D : Bool} {n : Nat} {v1 : Int32} {r : (Mem)}, rc I v1 = some r → MethR yX8_readExpression cX8_readExpression 3 (none) dr [.inr (.inr (8, 0, 0)), .inl v1] I P O D n none r P O D n) {d : Nat} (hd : dr + 12 ≤ d) {P : PMem} {O : Nat → Int64} {D : Bool} {n : Nat} {r : Nat}  : ∀ (fu : Nat) {I : Mem} {v1 : Int32}, f_X8_readProduct_5 rc fu I v1 = some (Sum.inr r) → EndX X cX8_readProduct RX8 3 (none) d (n + 1) r I P O D Q → Here X cX8_readProduct RX8 3 (none) d (n + 1) 5 [some (.inr (.inr (8, 0, 0))), some (.inl v1), none] [] I P O D n Q := by
  intro fu
  induction fu with
  | zero => intro I v1 h E; cases h
  | succ fu ih =>
  intro I v1 h E
  have H5 : ∀ (I : Mem) (v1 : Int32), f_X8_readProduct_5 rc fu I v1 = some (Sum.inr r) → Here X cX8_readProduct RX8 3 (none) d (n + 1) 5 [some (.inr (.inr (8, 0, 0))), some (.inl v1), none] [] I P O D n Q := fun _ _ b => ih b E
  simp only [f_X8_readProduct_5] at h
  refine h_aload_n dX8_readProduct_5 rfl ?_
  refine h_bipush (42 : Int32) dX8_readProduct_6 k_bipush_42 ?_
  obtain ⟨y1, hh1, h⟩ := obd_some h
  refine h_cVi [.inl (42 : Int32)] (m_X8_isMarked  hh1) cw_X8_217 dX8_readProduct_8 rfl ok_8 (by omega) rfl (Or.inr rfl) rfl ?_
  refine h_if_ne (tgt := 23) dX8_readProduct_11 (by decide) (fun q1 => ?_) (fun q1 => ?_)
  · rw [if_neg q1] at h
    exact (bx_X8_readProduct_23 X Q rc dr Hrc hd H5  h E)
  · rw [if_pos q1] at h
    refine h_aload_n dX8_readProduct_14 rfl ?_
    refine h_bipush (47 : Int32) dX8_readProduct_15 k_bipush_47 ?_
    obtain ⟨y2, hh2, h⟩ := obd_some h
    refine h_cVi [.inl (47 : Int32)] (m_X8_isMarked  hh2) cw_X8_217 dX8_readProduct_17 rfl ok_8 (by omega) rfl (Or.inr rfl) rfl ?_
    refine h_if_eq (tgt := 57) dX8_readProduct_20 (by decide) (fun q2 => ?_) (fun q2 => ?_)
    · rw [if_pos q2] at h
      cases h
    · rw [if_neg q2] at h
      exact (bx_X8_readProduct_23 X Q rc dr Hrc hd H5  h E)
def f_X8_readProduct (rc : Mem → Int32 → Option ((Mem) ⊕ Nat))   (I : Mem) (v1 : Int32) : Option ((Mem) ⊕ Nat) :=
  thb (f_X8_readPart rc I v1) fun y1 =>
  f_X8_readProduct_5 rc FU y1 v1
theorem b_X8_readProduct (X : CX) (Q : State → Prop) (rc : Mem → Int32 → Option ((Mem) ⊕ Nat)) (dr : Nat) (Hrc : ∀ {I : Mem} {P : PMem} {O : Nat → Int64} {D : Bool} {n : Nat} {v1 : Int32} {r : (Mem)}, rc I v1 = some r → MethR yX8_readExpression cX8_readExpression 3 (none) dr [.inr (.inr (8, 0, 0)), .inl v1] I P O D n none r P O D n) {d : Nat} (hd : dr + 12 ≤ d) {I : Mem} {P : PMem} {O : Nat → Int64} {D : Bool} {n : Nat} {v1 : Int32} {r : (Mem)}  (h : f_X8_readProduct rc I v1 = some (Sum.inl r)) (E : EndR X cX8_readProduct RX8 3 (none) d n none r P O D Q) : Here X cX8_readProduct RX8 3 (none) d n 0 [some (.inr (.inr (8, 0, 0))), some (.inl v1), none] [] I P O D n Q := by
  unfold f_X8_readProduct at h
  refine h_aload_n dX8_readProduct_0 rfl ?_
  refine h_iload_n dX8_readProduct_1 rfl ?_
  obtain ⟨y1, hh1, h⟩ := thb_R h
  refine h_cVv [.inl v1] (m_X8_readPart (d := d - 1) rc dr Hrc (by omega)  hh1) cw_X8_246 dX8_readProduct_2 rfl ok_8 (by omega) rfl (Or.inr rfl) rfl ?_
  exact (b_X8_readProduct_5 X Q rc dr Hrc hd FU  h E)
theorem bx_X8_readProduct (X : CX) (Q : State → Prop) (rc : Mem → Int32 → Option ((Mem) ⊕ Nat)) (dr : Nat) (Hrc : ∀ {I : Mem} {P : PMem} {O : Nat → Int64} {D : Bool} {n : Nat} {v1 : Int32} {r : (Mem)}, rc I v1 = some r → MethR yX8_readExpression cX8_readExpression 3 (none) dr [.inr (.inr (8, 0, 0)), .inl v1] I P O D n none r P O D n) {d : Nat} (hd : dr + 12 ≤ d) {I : Mem} {P : PMem} {O : Nat → Int64} {D : Bool} {n : Nat} {v1 : Int32} {r : Nat}  (h : f_X8_readProduct rc I v1 = some (Sum.inr r)) (E : EndX X cX8_readProduct RX8 3 (none) d (n + 1) r I P O D Q) : Here X cX8_readProduct RX8 3 (none) d (n + 1) 0 [some (.inr (.inr (8, 0, 0))), some (.inl v1), none] [] I P O D n Q := by
  unfold f_X8_readProduct at h
  refine h_aload_n dX8_readProduct_0 rfl ?_
  refine h_iload_n dX8_readProduct_1 rfl ?_
  rcases thb_X h with hh1 | ⟨y1, hh1, h⟩
  · exact h_callVX (as := [.inl v1]) (mx_X8_readPart  hh1) cw_X8_246 dX8_readProduct_2 rfl ok_8 (by omega) rfl rfl E
  refine h_cVv [.inl v1] (m_X8_readPart (d := d - 1) rc dr Hrc (by omega)  hh1) cw_X8_246 dX8_readProduct_2 rfl ok_8 (by omega) rfl (Or.inr rfl) rfl ?_
  exact (bx_X8_readProduct_5 X Q rc dr Hrc hd FU  h E)
theorem m_X8_readProduct (rc : Mem → Int32 → Option ((Mem) ⊕ Nat)) (dr : Nat) (Hrc : ∀ {I : Mem} {P : PMem} {O : Nat → Int64} {D : Bool} {n : Nat} {v1 : Int32} {r : (Mem)}, rc I v1 = some r → MethR yX8_readExpression cX8_readExpression 3 (none) dr [.inr (.inr (8, 0, 0)), .inl v1] I P O D n none r P O D n) {d : Nat} (hd : dr + 12 ≤ d) {I : Mem} {P : PMem} {O : Nat → Int64} {D : Bool} {n : Nat} {v1 : Int32} {r : (Mem)}  (h : f_X8_readProduct rc I v1 = some (Sum.inl r)) : MethR yX8_readProduct cX8_readProduct 3 (none) d [.inr (.inr (8, 0, 0)), .inl v1] I P O D n none r P O D n := meth_R (Nat.le_refl _) (by decide) rfl (Nat.le_of_ble_eq_true rfl) rfl (fun X Q E => b_X8_readProduct X Q rc dr Hrc hd  h E)
theorem mx_X8_readProduct {I : Mem} {P : PMem} {O : Nat → Int64} {D : Bool} {n : Nat} {v1 : Int32} {r : Nat}  (h : f_X8_readProduct rc I v1 = some (Sum.inr r)) : MethX yX8_readProduct cX8_readProduct 3 (none) d [.inr (.inr (8, 0, 0)), .inl v1] I P O D n r I P O D (n + 1) := meth_X (Nat.le_succ _) (by decide) rfl (Nat.le_of_ble_eq_true rfl) rfl (fun X Q E => bx_X8_readProduct X Q  h E)
def f_X8_readSum_39 (rc : Mem → Int32 → Option ((Mem) ⊕ Nat)) (k5 : Mem → Int32 → Option ((Mem) ⊕ Nat))  (I : Mem) (v1 : Int32) (s0 : Int32) : Option ((Mem) ⊕ Nat) :=
  (f_X8_stepOn I).bind fun y1 =>
  thb (f_X8_readProduct rc y1 v1) fun y2 =>
  (f_X8_lay y2 s0).bind fun y3 =>
  k5 y3 v1
theorem b_X8_readSum_39 (X : CX) (Q : State → Prop) (rc : Mem → Int32 → Option ((Mem) ⊕ Nat)) (dr : Nat) (Hrc : ∀ {I : Mem} {P : PMem} {O : Nat → Int64} {D : Bool} {n : Nat} {v1 : Int32} {r : (Mem)}, rc I v1 = some r → MethR yX8_readExpression cX8_readExpression 3 (none) dr [.inr (.inr (8, 0, 0)), .inl v1] I P O D n none r P O D n) {d : Nat} (hd : dr + 13 ≤ d) {I : Mem} {P : PMem} {O : Nat → Int64} {D : Bool} {n : Nat} {k5 : Mem → Int32 → Option ((Mem) ⊕ Nat)} {v1 : Int32} {s0 : Int32} {r : (Mem)}  (H5 : ∀ (I : Mem) (v1 : Int32), k5 I v1 = some (Sum.inl r) → Here X cX8_readSum RX8 3 (none) d n 5 [some (.inr (.inr (8, 0, 0))), some (.inl v1), none] [] I P O D n Q) (h : f_X8_readSum_39 rc k5 I v1 s0 = some (Sum.inl r)) (E : EndR X cX8_readSum RX8 3 (none) d n none r P O D Q) : Here X cX8_readSum RX8 3 (none) d n 39 [some (.inr (.inr (8, 0, 0))), some (.inl v1), none] [.inl s0] I P O D n Q := by
  unfold f_X8_readSum_39 at h
  refine h_istore_n dX8_readSum_39 (by decide) rfl ?_
  refine h_aload_n dX8_readSum_40 rfl ?_
  obtain ⟨y1, hh1, h⟩ := obd_some h
  refine h_cVv [] (m_X8_stepOn  hh1) cw_X8_224 dX8_readSum_41 rfl ok_8 (by omega) rfl (Or.inr rfl) rfl ?_
  refine h_aload_n dX8_readSum_44 rfl ?_
  refine h_iload_n dX8_readSum_45 rfl ?_
  obtain ⟨y2, hh2, h⟩ := thb_R h
  refine h_cVv [.inl v1] (m_X8_readProduct (d := d - 1) rc dr Hrc (by omega)  hh2) cw_X8_249 dX8_readSum_46 rfl ok_8 (by omega) rfl (Or.inr rfl) rfl ?_
  refine h_aload_n dX8_readSum_49 rfl ?_
  refine h_iload_n dX8_readSum_50 rfl ?_
  obtain ⟨y3, hh3, h⟩ := obd_some h
  refine h_cVv [.inl s0] (m_X8_lay  hh3) cw_X8_233 dX8_readSum_51 rfl ok_8 (by omega) rfl (Or.inr rfl) rfl ?_
  refine h_goto (tgt := 5) dX8_readSum_54 (by decide) ?_
  exact h_mask [true, true, false] (H5 _ _ h)
theorem bx_X8_readSum_39 (X : CX) (Q : State → Prop) (rc : Mem → Int32 → Option ((Mem) ⊕ Nat)) (dr : Nat) (Hrc : ∀ {I : Mem} {P : PMem} {O : Nat → Int64} {D : Bool} {n : Nat} {v1 : Int32} {r : (Mem)}, rc I v1 = some r → MethR yX8_readExpression cX8_readExpression 3 (none) dr [.inr (.inr (8, 0, 0)), .inl v1] I P O D n none r P O D n) {d : Nat} (hd : dr + 13 ≤ d) {I : Mem} {P : PMem} {O : Nat → Int64} {D : Bool} {n : Nat} {k5 : Mem → Int32 → Option ((Mem) ⊕ Nat)} {v1 : Int32} {s0 : Int32} {r : Nat}  (H5 : ∀ (I : Mem) (v1 : Int32), k5 I v1 = some (Sum.inr r) → Here X cX8_readSum RX8 3 (none) d (n + 1) 5 [some (.inr (.inr (8, 0, 0))), some (.inl v1), none] [] I P O D n Q) (h : f_X8_readSum_39 rc k5 I v1 s0 = some (Sum.inr r)) (E : EndX X cX8_readSum RX8 3 (none) d (n + 1) r I P O D Q) : Here X cX8_readSum RX8 3 (none) d (n + 1) 39 [some (.inr (.inr (8, 0, 0))), some (.inl v1), none] [.inl s0] I P O D n Q := by
  unfold f_X8_readSum_39 at h
  refine h_istore_n dX8_readSum_39 (by decide) rfl ?_
  refine h_aload_n dX8_readSum_40 rfl ?_
  obtain ⟨y1, hh1, h⟩ := obd_some h
  refine h_cVv [] (m_X8_stepOn  hh1) cw_X8_224 dX8_readSum_41 rfl ok_8 (by omega) rfl (Or.inr rfl) rfl ?_
  refine h_aload_n dX8_readSum_44 rfl ?_
  refine h_iload_n dX8_readSum_45 rfl ?_
  rcases thb_X h with hh2 | ⟨y2, hh2, h⟩
  · exact h_callVX (as := [.inl v1]) (mx_X8_readProduct  hh2) cw_X8_249 dX8_readSum_46 rfl ok_8 (by omega) rfl rfl E
  refine h_cVv [.inl v1] (m_X8_readProduct (d := d - 1) rc dr Hrc (by omega)  hh2) cw_X8_249 dX8_readSum_46 rfl ok_8 (by omega) rfl (Or.inr rfl) rfl ?_
  refine h_aload_n dX8_readSum_49 rfl ?_
  refine h_iload_n dX8_readSum_50 rfl ?_
  obtain ⟨y3, hh3, h⟩ := obd_some h
  refine h_cVv [.inl s0] (m_X8_lay  hh3) cw_X8_233 dX8_readSum_51 rfl ok_8 (by omega) rfl (Or.inr rfl) rfl ?_
  refine h_goto (tgt := 5) dX8_readSum_54 (by decide) ?_
  exact h_mask [true, true, false] (H5 _ _ h)
def f_X8_readSum_23 (rc : Mem → Int32 → Option ((Mem) ⊕ Nat)) (k5 : Mem → Int32 → Option ((Mem) ⊕ Nat))  (I : Mem) (v1 : Int32) : Option ((Mem) ⊕ Nat) :=
  (f_X8_isMarked I (43 : Int32)).bind fun y1 =>
  if y1 = 0 then (f_X8_readSum_39 rc k5 I v1 (-21 : Int32)) else (f_X8_readSum_39 rc k5 I v1 (-20 : Int32))
theorem b_X8_readSum_23 (X : CX) (Q : State → Prop) (rc : Mem → Int32 → Option ((Mem) ⊕ Nat)) (dr : Nat) (Hrc : ∀ {I : Mem} {P : PMem} {O : Nat → Int64} {D : Bool} {n : Nat} {v1 : Int32} {r : (Mem)}, rc I v1 = some r → MethR yX8_readExpression cX8_readExpression 3 (none) dr [.inr (.inr (8, 0, 0)), .inl v1] I P O D n none r P O D n) {d : Nat} (hd : dr + 13 ≤ d) {I : Mem} {P : PMem} {O : Nat → Int64} {D : Bool} {n : Nat} {k5 : Mem → Int32 → Option ((Mem) ⊕ Nat)} {v1 : Int32} {r : (Mem)}  (H5 : ∀ (I : Mem) (v1 : Int32), k5 I v1 = some (Sum.inl r) → Here X cX8_readSum RX8 3 (none) d n 5 [some (.inr (.inr (8, 0, 0))), some (.inl v1), none] [] I P O D n Q) (h : f_X8_readSum_23 rc k5 I v1 = some (Sum.inl r)) (E : EndR X cX8_readSum RX8 3 (none) d n none r P O D Q) : Here X cX8_readSum RX8 3 (none) d n 23 [some (.inr (.inr (8, 0, 0))), some (.inl v1), none] [] I P O D n Q := by
  unfold f_X8_readSum_23 at h
  refine h_aload_n dX8_readSum_23 rfl ?_
  refine h_bipush (43 : Int32) dX8_readSum_24 k_bipush_43 ?_
  obtain ⟨y1, hh1, h⟩ := obd_some h
  refine h_cVi [.inl (43 : Int32)] (m_X8_isMarked  hh1) cw_X8_217 dX8_readSum_26 rfl ok_8 (by omega) rfl (Or.inr rfl) rfl ?_
  refine h_if_eq (tgt := 37) dX8_readSum_29 (by decide) (fun q1 => ?_) (fun q1 => ?_)
  · rw [if_pos q1] at h
    refine h_bipush (-21 : Int32) dX8_readSum_37 k_bipush_m21 ?_
    exact (b_X8_readSum_39 X Q rc dr Hrc hd H5  h E)
  · rw [if_neg q1] at h
    refine h_bipush (-20 : Int32) dX8_readSum_32 k_bipush_m20 ?_
    refine h_goto (tgt := 39) dX8_readSum_34 (by decide) ?_
    exact (b_X8_readSum_39 X Q rc dr Hrc hd H5  h E)
theorem bx_X8_readSum_23 (X : CX) (Q : State → Prop) (rc : Mem → Int32 → Option ((Mem) ⊕ Nat)) (dr : Nat) (Hrc : ∀ {I : Mem} {P : PMem} {O : Nat → Int64} {D : Bool} {n : Nat} {v1 : Int32} {r : (Mem)}, rc I v1 = some r → MethR yX8_readExpression cX8_readExpression 3 (none) dr [.inr (.inr (8, 0, 0)), .inl v1] I P O D n none r P O D n) {d : Nat} (hd : dr + 13 ≤ d) {I : Mem} {P : PMem} {O : Nat → Int64} {D : Bool} {n : Nat} {k5 : Mem → Int32 → Option ((Mem) ⊕ Nat)} {v1 : Int32} {r : Nat}  (H5 : ∀ (I : Mem) (v1 : Int32), k5 I v1 = some (Sum.inr r) → Here X cX8_readSum RX8 3 (none) d (n + 1) 5 [some (.inr (.inr (8, 0, 0))), some (.inl v1), none] [] I P O D n Q) (h : f_X8_readSum_23 rc k5 I v1 = some (Sum.inr r)) (E : EndX X cX8_readSum RX8 3 (none) d (n + 1) r I P O D Q) : Here X cX8_readSum RX8 3 (none) d (n + 1) 23 [some (.inr (.inr (8, 0, 0))), some (.inl v1), none] [] I P O D n Q := by
  unfold f_X8_readSum_23 at h
  refine h_aload_n dX8_readSum_23 rfl ?_
  refine h_bipush (43 : Int32) dX8_readSum_24 k_bipush_43 ?_
  obtain ⟨y1, hh1, h⟩ := obd_some h
  refine h_cVi [.inl (43 : Int32)] (m_X8_isMarked  hh1) cw_X8_217 dX8_readSum_26 rfl ok_8 (by omega) rfl (Or.inr rfl) rfl ?_
  refine h_if_eq (tgt := 37) dX8_readSum_29 (by decide) (fun q1 => ?_) (fun q1 => ?_)
  · rw [if_pos q1] at h
    refine h_bipush (-21 : Int32) dX8_readSum_37 k_bipush_m21 ?_
    exact (bx_X8_readSum_39 X Q rc dr Hrc hd H5  h E)
  · rw [if_neg q1] at h
    refine h_bipush (-20 : Int32) dX8_readSum_32 k_bipush_m20 ?_
    refine h_goto (tgt := 39) dX8_readSum_34 (by decide) ?_
    exact (bx_X8_readSum_39 X Q rc dr Hrc hd H5  h E)
def f_X8_readSum_5 (rc : Mem → Int32 → Option ((Mem) ⊕ Nat))   : Nat → Mem → Int32 → Option ((Mem) ⊕ Nat)
  | 0, _, _ => none
  | fu + 1, I, v1 =>
    (f_X8_isMarked I (43 : Int32)).bind fun y1 =>
    if y1 = 0 then ((f_X8_isMarked I (45 : Int32)).bind fun y2 =>
    if y2 = 0 then (some (Sum.inl I)) else (f_X8_readSum_23 rc (f_X8_readSum_5 rc fu) I v1)) else (f_X8_readSum_23 rc (f_X8_readSum_5 rc fu) I v1)
theorem b_X8_readSum_5 (X : CX) (Q : State → Prop) (rc : Mem → Int32 → Option ((Mem) ⊕ Nat)) (dr : Nat) (Hrc : ∀ {I : Mem} {P : PMem} {O : Nat → Int64} {D : Bool} {n : Nat} {v1 : Int32} {r : (Mem)}, rc I v1 = some r → MethR yX8_readExpression cX8_readExpression 3 (none) dr [.inr (.inr (8, 0, 0)), .inl v1] I P O D n none r P O D n) {d : Nat} (hd : dr + 13 ≤ d) {P : PMem} {O : Nat → Int64} {D : Bool} {n : Nat} {r : (Mem)}  : ∀ (fu : Nat) {I : Mem} {v1 : Int32}, f_X8_readSum_5 rc fu I v1 = some (Sum.inl r) → EndR X cX8_readSum RX8 3 (none) d n none r P O D Q → Here X cX8_readSum RX8 3 (none) d n 5 [some (.inr (.inr (8, 0, 0))), some (.inl v1), none] [] I P O D n Q := by
  intro fu
  induction fu with
  | zero => intro I v1 h E; cases h
  | succ fu ih =>
  intro I v1 h E
  have H5 : ∀ (I : Mem) (v1 : Int32), f_X8_readSum_5 rc fu I v1 = some (Sum.inl r) → Here X cX8_readSum RX8 3 (none) d n 5 [some (.inr (.inr (8, 0, 0))), some (.inl v1), none] [] I P O D n Q := fun _ _ b => ih b E
  simp only [f_X8_readSum_5] at h
  refine h_aload_n dX8_readSum_5 rfl ?_
  refine h_bipush (43 : Int32) dX8_readSum_6 k_bipush_43 ?_
  obtain ⟨y1, hh1, h⟩ := obd_some h
  refine h_cVi [.inl (43 : Int32)] (m_X8_isMarked  hh1) cw_X8_217 dX8_readSum_8 rfl ok_8 (by omega) rfl (Or.inr rfl) rfl ?_
  refine h_if_ne (tgt := 23) dX8_readSum_11 (by decide) (fun q1 => ?_) (fun q1 => ?_)
  · rw [if_neg q1] at h
    exact (b_X8_readSum_23 X Q rc dr Hrc hd H5  h E)
  · rw [if_pos q1] at h
    refine h_aload_n dX8_readSum_14 rfl ?_
    refine h_bipush (45 : Int32) dX8_readSum_15 k_bipush_45 ?_
    obtain ⟨y2, hh2, h⟩ := obd_some h
    refine h_cVi [.inl (45 : Int32)] (m_X8_isMarked  hh2) cw_X8_217 dX8_readSum_17 rfl ok_8 (by omega) rfl (Or.inr rfl) rfl ?_
    refine h_if_eq (tgt := 57) dX8_readSum_20 (by decide) (fun q2 => ?_) (fun q2 => ?_)
    · rw [if_pos q2] at h
      cases h
      exact h_vret dX8_readSum_57 rfl E
    · rw [if_neg q2] at h
      exact (b_X8_readSum_23 X Q rc dr Hrc hd H5  h E)
theorem bx_X8_readSum_5 (X : CX) (Q : State → Prop) (rc : Mem → Int32 → Option ((Mem) ⊕ Nat)) (dr : Nat) (Hrc : ∀ {I : Mem} {P : PMem} {O : Nat → Int64} {D : Bool} {n : Nat} {v1 : Int32} {r : (Mem)}, rc I v1 = some r → MethR yX8_readExpression cX8_readExpression 3 (none) dr [.inr (.inr (8, 0, 0)), .inl v1] I P O D n none r P O D n) {d : Nat} (hd : dr + 13 ≤ d) {P : PMem} {O : Nat → Int64} {D : Bool} {n : Nat} {r : Nat}  : ∀ (fu : Nat) {I : Mem} {v1 : Int32}, f_X8_readSum_5 rc fu I v1 = some (Sum.inr r) → EndX X cX8_readSum RX8 3 (none) d (n + 1) r I P O D Q → Here X cX8_readSum RX8 3 (none) d (n + 1) 5 [some (.inr (.inr (8, 0, 0))), some (.inl v1), none] [] I P O D n Q := by
  intro fu
  induction fu with
  | zero => intro I v1 h E; cases h
  | succ fu ih =>
  intro I v1 h E
  have H5 : ∀ (I : Mem) (v1 : Int32), f_X8_readSum_5 rc fu I v1 = some (Sum.inr r) → Here X cX8_readSum RX8 3 (none) d (n + 1) 5 [some (.inr (.inr (8, 0, 0))), some (.inl v1), none] [] I P O D n Q := fun _ _ b => ih b E
  simp only [f_X8_readSum_5] at h
  refine h_aload_n dX8_readSum_5 rfl ?_
  refine h_bipush (43 : Int32) dX8_readSum_6 k_bipush_43 ?_
  obtain ⟨y1, hh1, h⟩ := obd_some h
  refine h_cVi [.inl (43 : Int32)] (m_X8_isMarked  hh1) cw_X8_217 dX8_readSum_8 rfl ok_8 (by omega) rfl (Or.inr rfl) rfl ?_
  refine h_if_ne (tgt := 23) dX8_readSum_11 (by decide) (fun q1 => ?_) (fun q1 => ?_)
  · rw [if_neg q1] at h
    exact (bx_X8_readSum_23 X Q rc dr Hrc hd H5  h E)
  · rw [if_pos q1] at h
    refine h_aload_n dX8_readSum_14 rfl ?_
    refine h_bipush (45 : Int32) dX8_readSum_15 k_bipush_45 ?_
    obtain ⟨y2, hh2, h⟩ := obd_some h
    refine h_cVi [.inl (45 : Int32)] (m_X8_isMarked  hh2) cw_X8_217 dX8_readSum_17 rfl ok_8 (by omega) rfl (Or.inr rfl) rfl ?_
    refine h_if_eq (tgt := 57) dX8_readSum_20 (by decide) (fun q2 => ?_) (fun q2 => ?_)
    · rw [if_pos q2] at h
      cases h
    · rw [if_neg q2] at h
      exact (bx_X8_readSum_23 X Q rc dr Hrc hd H5  h E)
def f_X8_readSum (rc : Mem → Int32 → Option ((Mem) ⊕ Nat))   (I : Mem) (v1 : Int32) : Option ((Mem) ⊕ Nat) :=
  thb (f_X8_readProduct rc I v1) fun y1 =>
  f_X8_readSum_5 rc FU y1 v1
theorem b_X8_readSum (X : CX) (Q : State → Prop) (rc : Mem → Int32 → Option ((Mem) ⊕ Nat)) (dr : Nat) (Hrc : ∀ {I : Mem} {P : PMem} {O : Nat → Int64} {D : Bool} {n : Nat} {v1 : Int32} {r : (Mem)}, rc I v1 = some r → MethR yX8_readExpression cX8_readExpression 3 (none) dr [.inr (.inr (8, 0, 0)), .inl v1] I P O D n none r P O D n) {d : Nat} (hd : dr + 13 ≤ d) {I : Mem} {P : PMem} {O : Nat → Int64} {D : Bool} {n : Nat} {v1 : Int32} {r : (Mem)}  (h : f_X8_readSum rc I v1 = some (Sum.inl r)) (E : EndR X cX8_readSum RX8 3 (none) d n none r P O D Q) : Here X cX8_readSum RX8 3 (none) d n 0 [some (.inr (.inr (8, 0, 0))), some (.inl v1), none] [] I P O D n Q := by
  unfold f_X8_readSum at h
  refine h_aload_n dX8_readSum_0 rfl ?_
  refine h_iload_n dX8_readSum_1 rfl ?_
  obtain ⟨y1, hh1, h⟩ := thb_R h
  refine h_cVv [.inl v1] (m_X8_readProduct (d := d - 1) rc dr Hrc (by omega)  hh1) cw_X8_249 dX8_readSum_2 rfl ok_8 (by omega) rfl (Or.inr rfl) rfl ?_
  exact (b_X8_readSum_5 X Q rc dr Hrc hd FU  h E)
theorem bx_X8_readSum (X : CX) (Q : State → Prop) (rc : Mem → Int32 → Option ((Mem) ⊕ Nat)) (dr : Nat) (Hrc : ∀ {I : Mem} {P : PMem} {O : Nat → Int64} {D : Bool} {n : Nat} {v1 : Int32} {r : (Mem)}, rc I v1 = some r → MethR yX8_readExpression cX8_readExpression 3 (none) dr [.inr (.inr (8, 0, 0)), .inl v1] I P O D n none r P O D n) {d : Nat} (hd : dr + 13 ≤ d) {I : Mem} {P : PMem} {O : Nat → Int64} {D : Bool} {n : Nat} {v1 : Int32} {r : Nat}  (h : f_X8_readSum rc I v1 = some (Sum.inr r)) (E : EndX X cX8_readSum RX8 3 (none) d (n + 1) r I P O D Q) : Here X cX8_readSum RX8 3 (none) d (n + 1) 0 [some (.inr (.inr (8, 0, 0))), some (.inl v1), none] [] I P O D n Q := by
  unfold f_X8_readSum at h
  refine h_aload_n dX8_readSum_0 rfl ?_
  refine h_iload_n dX8_readSum_1 rfl ?_
  rcases thb_X h with hh1 | ⟨y1, hh1, h⟩
  · exact h_callVX (as := [.inl v1]) (mx_X8_readProduct  hh1) cw_X8_249 dX8_readSum_2 rfl ok_8 (by omega) rfl rfl E
  refine h_cVv [.inl v1] (m_X8_readProduct (d := d - 1) rc dr Hrc (by omega)  hh1) cw_X8_249 dX8_readSum_2 rfl ok_8 (by omega) rfl (Or.inr rfl) rfl ?_
  exact (bx_X8_readSum_5 X Q rc dr Hrc hd FU  h E)
theorem m_X8_readSum (rc : Mem → Int32 → Option ((Mem) ⊕ Nat)) (dr : Nat) (Hrc : ∀ {I : Mem} {P : PMem} {O : Nat → Int64} {D : Bool} {n : Nat} {v1 : Int32} {r : (Mem)}, rc I v1 = some r → MethR yX8_readExpression cX8_readExpression 3 (none) dr [.inr (.inr (8, 0, 0)), .inl v1] I P O D n none r P O D n) {d : Nat} (hd : dr + 13 ≤ d) {I : Mem} {P : PMem} {O : Nat → Int64} {D : Bool} {n : Nat} {v1 : Int32} {r : (Mem)}  (h : f_X8_readSum rc I v1 = some (Sum.inl r)) : MethR yX8_readSum cX8_readSum 3 (none) d [.inr (.inr (8, 0, 0)), .inl v1] I P O D n none r P O D n := meth_R (Nat.le_refl _) (by decide) rfl (Nat.le_of_ble_eq_true rfl) rfl (fun X Q E => b_X8_readSum X Q rc dr Hrc hd  h E)
theorem mx_X8_readSum {I : Mem} {P : PMem} {O : Nat → Int64} {D : Bool} {n : Nat} {v1 : Int32} {r : Nat}  (h : f_X8_readSum rc I v1 = some (Sum.inr r)) : MethX yX8_readSum cX8_readSum 3 (none) d [.inr (.inr (8, 0, 0)), .inl v1] I P O D n r I P O D (n + 1) := meth_X (Nat.le_succ _) (by decide) rfl (Nat.le_of_ble_eq_true rfl) rfl (fun X Q E => bx_X8_readSum X Q  h E)
def f_X8_readNot_95 (rc : Mem → Int32 → Option ((Mem) ⊕ Nat))   : Nat → Mem → Int32 → Int32 → Option ((Mem) ⊕ Nat)
  | 0, _, _, _ => none
  | fu + 1, I, v2, v3 =>
    if v2 ≤ v3 then (some (Sum.inl I)) else ((f_X8_lay I (-28 : Int32)).bind fun y1 =>
    (f_X8_readNot_95 rc fu) y1 v2 (v3 + (1 : Int32)))
theorem b_X8_readNot_95 (X : CX) (Q : State → Prop) (rc : Mem → Int32 → Option ((Mem) ⊕ Nat)) (dr : Nat) (Hrc : ∀ {I : Mem} {P : PMem} {O : Nat → Int64} {D : Bool} {n : Nat} {v1 : Int32} {r : (Mem)}, rc I v1 = some r → MethR yX8_readExpression cX8_readExpression 3 (none) dr [.inr (.inr (8, 0, 0)), .inl v1] I P O D n none r P O D n) {d : Nat} (hd : dr + 14 ≤ d) {P : PMem} {O : Nat → Int64} {D : Bool} {n : Nat} {r : (Mem)}  : ∀ (fu : Nat) {I : Mem} {v2 : Int32} {v3 : Int32}, f_X8_readNot_95 rc fu I v2 v3 = some (Sum.inl r) → EndR X cX8_readNot RX8 4 (none) d n none r P O D Q → Here X cX8_readNot RX8 4 (none) d n 95 [some (.inr (.inr (8, 0, 0))), none, some (.inl v2), some (.inl v3)] [] I P O D n Q := by
  intro fu
  induction fu with
  | zero => intro I v2 v3 h E; cases h
  | succ fu ih =>
  intro I v2 v3 h E
  have H95 : ∀ (I : Mem) (v2 : Int32) (v3 : Int32), f_X8_readNot_95 rc fu I v2 v3 = some (Sum.inl r) → Here X cX8_readNot RX8 4 (none) d n 95 [some (.inr (.inr (8, 0, 0))), none, some (.inl v2), some (.inl v3)] [] I P O D n Q := fun _ _ _ b => ih b E
  simp only [f_X8_readNot_95] at h
  refine h_iload_n dX8_readNot_95 rfl ?_
  refine h_iload_n dX8_readNot_96 rfl ?_
  refine h_icmp_ge (tgt := 112) dX8_readNot_97 (by decide) (fun q1 => ?_) (fun q1 => ?_)
  · rw [if_pos q1] at h
    cases h
    exact h_vret dX8_readNot_112 rfl E
  · rw [if_neg q1] at h
    refine h_aload_n dX8_readNot_100 rfl ?_
    refine h_bipush (-28 : Int32) dX8_readNot_101 k_bipush_m28 ?_
    obtain ⟨y1, hh1, h⟩ := obd_some h
    refine h_cVv [.inl (-28 : Int32)] (m_X8_lay  hh1) cw_X8_233 dX8_readNot_103 rfl ok_8 (by omega) rfl (Or.inr rfl) rfl ?_
    refine h_iinc (1 : Int32) dX8_readNot_106 rfl k_iinc_1 (by decide) rfl ?_
    refine h_goto (tgt := 95) dX8_readNot_109 (by decide) ?_
    exact (H95 _ _ _ h)
theorem bx_X8_readNot_95 (X : CX) (Q : State → Prop) (rc : Mem → Int32 → Option ((Mem) ⊕ Nat)) (dr : Nat) (Hrc : ∀ {I : Mem} {P : PMem} {O : Nat → Int64} {D : Bool} {n : Nat} {v1 : Int32} {r : (Mem)}, rc I v1 = some r → MethR yX8_readExpression cX8_readExpression 3 (none) dr [.inr (.inr (8, 0, 0)), .inl v1] I P O D n none r P O D n) {d : Nat} (hd : dr + 14 ≤ d) {P : PMem} {O : Nat → Int64} {D : Bool} {n : Nat} {r : Nat}  : ∀ (fu : Nat) {I : Mem} {v2 : Int32} {v3 : Int32}, f_X8_readNot_95 rc fu I v2 v3 = some (Sum.inr r) → EndX X cX8_readNot RX8 4 (none) d (n + 1) r I P O D Q → Here X cX8_readNot RX8 4 (none) d (n + 1) 95 [some (.inr (.inr (8, 0, 0))), none, some (.inl v2), some (.inl v3)] [] I P O D n Q := by
  intro fu
  induction fu with
  | zero => intro I v2 v3 h E; cases h
  | succ fu ih =>
  intro I v2 v3 h E
  have H95 : ∀ (I : Mem) (v2 : Int32) (v3 : Int32), f_X8_readNot_95 rc fu I v2 v3 = some (Sum.inr r) → Here X cX8_readNot RX8 4 (none) d (n + 1) 95 [some (.inr (.inr (8, 0, 0))), none, some (.inl v2), some (.inl v3)] [] I P O D n Q := fun _ _ _ b => ih b E
  simp only [f_X8_readNot_95] at h
  refine h_iload_n dX8_readNot_95 rfl ?_
  refine h_iload_n dX8_readNot_96 rfl ?_
  refine h_icmp_ge (tgt := 112) dX8_readNot_97 (by decide) (fun q1 => ?_) (fun q1 => ?_)
  · rw [if_pos q1] at h
    cases h
  · rw [if_neg q1] at h
    refine h_aload_n dX8_readNot_100 rfl ?_
    refine h_bipush (-28 : Int32) dX8_readNot_101 k_bipush_m28 ?_
    obtain ⟨y1, hh1, h⟩ := obd_some h
    refine h_cVv [.inl (-28 : Int32)] (m_X8_lay  hh1) cw_X8_233 dX8_readNot_103 rfl ok_8 (by omega) rfl (Or.inr rfl) rfl ?_
    refine h_iinc (1 : Int32) dX8_readNot_106 rfl k_iinc_1 (by decide) rfl ?_
    refine h_goto (tgt := 95) dX8_readNot_109 (by decide) ?_
    exact (H95 _ _ _ h)
def f_X8_readNot_93 (rc : Mem → Int32 → Option ((Mem) ⊕ Nat))   (I : Mem) (v2 : Int32) : Option ((Mem) ⊕ Nat) :=
  f_X8_readNot_95 rc FU I v2 (0 : Int32)
theorem b_X8_readNot_93 (X : CX) (Q : State → Prop) (rc : Mem → Int32 → Option ((Mem) ⊕ Nat)) (dr : Nat) (Hrc : ∀ {I : Mem} {P : PMem} {O : Nat → Int64} {D : Bool} {n : Nat} {v1 : Int32} {r : (Mem)}, rc I v1 = some r → MethR yX8_readExpression cX8_readExpression 3 (none) dr [.inr (.inr (8, 0, 0)), .inl v1] I P O D n none r P O D n) {d : Nat} (hd : dr + 14 ≤ d) {I : Mem} {P : PMem} {O : Nat → Int64} {D : Bool} {n : Nat} {v2 : Int32} {r : (Mem)}  (h : f_X8_readNot_93 rc I v2 = some (Sum.inl r)) (E : EndR X cX8_readNot RX8 4 (none) d n none r P O D Q) : Here X cX8_readNot RX8 4 (none) d n 93 [some (.inr (.inr (8, 0, 0))), none, some (.inl v2), none] [] I P O D n Q := by
  unfold f_X8_readNot_93 at h
  refine h_iconst (0 : Int32) dX8_readNot_93 k_iconst_0 ?_
  refine h_istore_n dX8_readNot_94 (by decide) rfl ?_
  exact (b_X8_readNot_95 X Q rc dr Hrc hd FU  h E)
theorem bx_X8_readNot_93 (X : CX) (Q : State → Prop) (rc : Mem → Int32 → Option ((Mem) ⊕ Nat)) (dr : Nat) (Hrc : ∀ {I : Mem} {P : PMem} {O : Nat → Int64} {D : Bool} {n : Nat} {v1 : Int32} {r : (Mem)}, rc I v1 = some r → MethR yX8_readExpression cX8_readExpression 3 (none) dr [.inr (.inr (8, 0, 0)), .inl v1] I P O D n none r P O D n) {d : Nat} (hd : dr + 14 ≤ d) {I : Mem} {P : PMem} {O : Nat → Int64} {D : Bool} {n : Nat} {v2 : Int32} {r : Nat}  (h : f_X8_readNot_93 rc I v2 = some (Sum.inr r)) (E : EndX X cX8_readNot RX8 4 (none) d (n + 1) r I P O D Q) : Here X cX8_readNot RX8 4 (none) d (n + 1) 93 [some (.inr (.inr (8, 0, 0))), none, some (.inl v2), none] [] I P O D n Q := by
  unfold f_X8_readNot_93 at h
  refine h_iconst (0 : Int32) dX8_readNot_93 k_iconst_0 ?_
  refine h_istore_n dX8_readNot_94 (by decide) rfl ?_
  exact (bx_X8_readNot_95 X Q rc dr Hrc hd FU  h E)
def f_X8_readNot_78 (rc : Mem → Int32 → Option ((Mem) ⊕ Nat))   (I : Mem) (v1 : Int32) (v2 : Int32) (s0 : Int32) : Option ((Mem) ⊕ Nat) :=
  (f_X8_stepOn I).bind fun y1 =>
  thb (f_X8_readSum rc y1 v1) fun y2 =>
  (f_X8_lay y2 s0).bind fun y3 =>
  f_X8_readNot_93 rc y3 v2
theorem b_X8_readNot_78 (X : CX) (Q : State → Prop) (rc : Mem → Int32 → Option ((Mem) ⊕ Nat)) (dr : Nat) (Hrc : ∀ {I : Mem} {P : PMem} {O : Nat → Int64} {D : Bool} {n : Nat} {v1 : Int32} {r : (Mem)}, rc I v1 = some r → MethR yX8_readExpression cX8_readExpression 3 (none) dr [.inr (.inr (8, 0, 0)), .inl v1] I P O D n none r P O D n) {d : Nat} (hd : dr + 14 ≤ d) {I : Mem} {P : PMem} {O : Nat → Int64} {D : Bool} {n : Nat} {v1 : Int32} {v2 : Int32} {s0 : Int32} {r : (Mem)}  (h : f_X8_readNot_78 rc I v1 v2 s0 = some (Sum.inl r)) (E : EndR X cX8_readNot RX8 4 (none) d n none r P O D Q) : Here X cX8_readNot RX8 4 (none) d n 78 [some (.inr (.inr (8, 0, 0))), some (.inl v1), some (.inl v2), none] [.inl s0] I P O D n Q := by
  unfold f_X8_readNot_78 at h
  refine h_istore_n dX8_readNot_78 (by decide) rfl ?_
  refine h_aload_n dX8_readNot_79 rfl ?_
  obtain ⟨y1, hh1, h⟩ := obd_some h
  refine h_cVv [] (m_X8_stepOn  hh1) cw_X8_224 dX8_readNot_80 rfl ok_8 (by omega) rfl (Or.inr rfl) rfl ?_
  refine h_aload_n dX8_readNot_83 rfl ?_
  refine h_iload_n dX8_readNot_84 rfl ?_
  obtain ⟨y2, hh2, h⟩ := thb_R h
  refine h_cVv [.inl v1] (m_X8_readSum (d := d - 1) rc dr Hrc (by omega)  hh2) cw_X8_254 dX8_readNot_85 rfl ok_8 (by omega) rfl (Or.inr rfl) rfl ?_
  refine h_aload_n dX8_readNot_88 rfl ?_
  refine h_iload_n dX8_readNot_89 rfl ?_
  obtain ⟨y3, hh3, h⟩ := obd_some h
  refine h_cVv [.inl s0] (m_X8_lay  hh3) cw_X8_233 dX8_readNot_90 rfl ok_8 (by omega) rfl (Or.inr rfl) rfl ?_
  exact h_mask [true, false, true, false] (b_X8_readNot_93 X Q rc dr Hrc hd  h E)
theorem bx_X8_readNot_78 (X : CX) (Q : State → Prop) (rc : Mem → Int32 → Option ((Mem) ⊕ Nat)) (dr : Nat) (Hrc : ∀ {I : Mem} {P : PMem} {O : Nat → Int64} {D : Bool} {n : Nat} {v1 : Int32} {r : (Mem)}, rc I v1 = some r → MethR yX8_readExpression cX8_readExpression 3 (none) dr [.inr (.inr (8, 0, 0)), .inl v1] I P O D n none r P O D n) {d : Nat} (hd : dr + 14 ≤ d) {I : Mem} {P : PMem} {O : Nat → Int64} {D : Bool} {n : Nat} {v1 : Int32} {v2 : Int32} {s0 : Int32} {r : Nat}  (h : f_X8_readNot_78 rc I v1 v2 s0 = some (Sum.inr r)) (E : EndX X cX8_readNot RX8 4 (none) d (n + 1) r I P O D Q) : Here X cX8_readNot RX8 4 (none) d (n + 1) 78 [some (.inr (.inr (8, 0, 0))), some (.inl v1), some (.inl v2), none] [.inl s0] I P O D n Q := by
  unfold f_X8_readNot_78 at h
  refine h_istore_n dX8_readNot_78 (by decide) rfl ?_
  refine h_aload_n dX8_readNot_79 rfl ?_
  obtain ⟨y1, hh1, h⟩ := obd_some h
  refine h_cVv [] (m_X8_stepOn  hh1) cw_X8_224 dX8_readNot_80 rfl ok_8 (by omega) rfl (Or.inr rfl) rfl ?_
  refine h_aload_n dX8_readNot_83 rfl ?_
  refine h_iload_n dX8_readNot_84 rfl ?_
  rcases thb_X h with hh2 | ⟨y2, hh2, h⟩
  · exact h_callVX (as := [.inl v1]) (mx_X8_readSum  hh2) cw_X8_254 dX8_readNot_85 rfl ok_8 (by omega) rfl rfl E
  refine h_cVv [.inl v1] (m_X8_readSum (d := d - 1) rc dr Hrc (by omega)  hh2) cw_X8_254 dX8_readNot_85 rfl ok_8 (by omega) rfl (Or.inr rfl) rfl ?_
  refine h_aload_n dX8_readNot_88 rfl ?_
  refine h_iload_n dX8_readNot_89 rfl ?_
  obtain ⟨y3, hh3, h⟩ := obd_some h
  refine h_cVv [.inl s0] (m_X8_lay  hh3) cw_X8_233 dX8_readNot_90 rfl ok_8 (by omega) rfl (Or.inr rfl) rfl ?_
  exact h_mask [true, false, true, false] (bx_X8_readNot_93 X Q rc dr Hrc hd  h E)
def f_X8_readNot_62 (rc : Mem → Int32 → Option ((Mem) ⊕ Nat))   (I : Mem) (v1 : Int32) (v2 : Int32) : Option ((Mem) ⊕ Nat) :=
  (f_X8_isMarked I (60 : Int32)).bind fun y1 =>
  if y1 = 0 then (f_X8_readNot_78 rc I v1 v2 (-25 : Int32)) else (f_X8_readNot_78 rc I v1 v2 (-24 : Int32))
theorem b_X8_readNot_62 (X : CX) (Q : State → Prop) (rc : Mem → Int32 → Option ((Mem) ⊕ Nat)) (dr : Nat) (Hrc : ∀ {I : Mem} {P : PMem} {O : Nat → Int64} {D : Bool} {n : Nat} {v1 : Int32} {r : (Mem)}, rc I v1 = some r → MethR yX8_readExpression cX8_readExpression 3 (none) dr [.inr (.inr (8, 0, 0)), .inl v1] I P O D n none r P O D n) {d : Nat} (hd : dr + 14 ≤ d) {I : Mem} {P : PMem} {O : Nat → Int64} {D : Bool} {n : Nat} {v1 : Int32} {v2 : Int32} {r : (Mem)}  (h : f_X8_readNot_62 rc I v1 v2 = some (Sum.inl r)) (E : EndR X cX8_readNot RX8 4 (none) d n none r P O D Q) : Here X cX8_readNot RX8 4 (none) d n 62 [some (.inr (.inr (8, 0, 0))), some (.inl v1), some (.inl v2), none] [] I P O D n Q := by
  unfold f_X8_readNot_62 at h
  refine h_aload_n dX8_readNot_62 rfl ?_
  refine h_bipush (60 : Int32) dX8_readNot_63 k_bipush_60 ?_
  obtain ⟨y1, hh1, h⟩ := obd_some h
  refine h_cVi [.inl (60 : Int32)] (m_X8_isMarked  hh1) cw_X8_217 dX8_readNot_65 rfl ok_8 (by omega) rfl (Or.inr rfl) rfl ?_
  refine h_if_eq (tgt := 76) dX8_readNot_68 (by decide) (fun q1 => ?_) (fun q1 => ?_)
  · rw [if_pos q1] at h
    refine h_bipush (-25 : Int32) dX8_readNot_76 k_bipush_m25 ?_
    exact (b_X8_readNot_78 X Q rc dr Hrc hd  h E)
  · rw [if_neg q1] at h
    refine h_bipush (-24 : Int32) dX8_readNot_71 k_bipush_m24 ?_
    refine h_goto (tgt := 78) dX8_readNot_73 (by decide) ?_
    exact (b_X8_readNot_78 X Q rc dr Hrc hd  h E)
theorem bx_X8_readNot_62 (X : CX) (Q : State → Prop) (rc : Mem → Int32 → Option ((Mem) ⊕ Nat)) (dr : Nat) (Hrc : ∀ {I : Mem} {P : PMem} {O : Nat → Int64} {D : Bool} {n : Nat} {v1 : Int32} {r : (Mem)}, rc I v1 = some r → MethR yX8_readExpression cX8_readExpression 3 (none) dr [.inr (.inr (8, 0, 0)), .inl v1] I P O D n none r P O D n) {d : Nat} (hd : dr + 14 ≤ d) {I : Mem} {P : PMem} {O : Nat → Int64} {D : Bool} {n : Nat} {v1 : Int32} {v2 : Int32} {r : Nat}  (h : f_X8_readNot_62 rc I v1 v2 = some (Sum.inr r)) (E : EndX X cX8_readNot RX8 4 (none) d (n + 1) r I P O D Q) : Here X cX8_readNot RX8 4 (none) d (n + 1) 62 [some (.inr (.inr (8, 0, 0))), some (.inl v1), some (.inl v2), none] [] I P O D n Q := by
  unfold f_X8_readNot_62 at h
  refine h_aload_n dX8_readNot_62 rfl ?_
  refine h_bipush (60 : Int32) dX8_readNot_63 k_bipush_60 ?_
  obtain ⟨y1, hh1, h⟩ := obd_some h
  refine h_cVi [.inl (60 : Int32)] (m_X8_isMarked  hh1) cw_X8_217 dX8_readNot_65 rfl ok_8 (by omega) rfl (Or.inr rfl) rfl ?_
  refine h_if_eq (tgt := 76) dX8_readNot_68 (by decide) (fun q1 => ?_) (fun q1 => ?_)
  · rw [if_pos q1] at h
    refine h_bipush (-25 : Int32) dX8_readNot_76 k_bipush_m25 ?_
    exact (bx_X8_readNot_78 X Q rc dr Hrc hd  h E)
  · rw [if_neg q1] at h
    refine h_bipush (-24 : Int32) dX8_readNot_71 k_bipush_m24 ?_
    refine h_goto (tgt := 78) dX8_readNot_73 (by decide) ?_
    exact (bx_X8_readNot_78 X Q rc dr Hrc hd  h E)
def f_X8_readNot_22 (rc : Mem → Int32 → Option ((Mem) ⊕ Nat)) (k2 : Mem → Int32 → Int32 → Option ((Mem) ⊕ Nat))  (I : Mem) (v1 : Int32) (v2 : Int32) : Option ((Mem) ⊕ Nat) :=
  if (I 8 0 0 21) = 0 then ((f_X8_stepOn I).bind fun y1 =>
  k2 y1 v1 (v2 + (1 : Int32))) else (k2 I v1 (v2 + (1 : Int32)))
theorem b_X8_readNot_22 (X : CX) (Q : State → Prop) (rc : Mem → Int32 → Option ((Mem) ⊕ Nat)) (dr : Nat) (Hrc : ∀ {I : Mem} {P : PMem} {O : Nat → Int64} {D : Bool} {n : Nat} {v1 : Int32} {r : (Mem)}, rc I v1 = some r → MethR yX8_readExpression cX8_readExpression 3 (none) dr [.inr (.inr (8, 0, 0)), .inl v1] I P O D n none r P O D n) {d : Nat} (hd : dr + 14 ≤ d) {I : Mem} {P : PMem} {O : Nat → Int64} {D : Bool} {n : Nat} {k2 : Mem → Int32 → Int32 → Option ((Mem) ⊕ Nat)} {v1 : Int32} {v2 : Int32} {r : (Mem)}  (H2 : ∀ (I : Mem) (v1 : Int32) (v2 : Int32), k2 I v1 v2 = some (Sum.inl r) → Here X cX8_readNot RX8 4 (none) d n 2 [some (.inr (.inr (8, 0, 0))), some (.inl v1), some (.inl v2), none] [] I P O D n Q) (h : f_X8_readNot_22 rc k2 I v1 v2 = some (Sum.inl r)) (E : EndR X cX8_readNot RX8 4 (none) d n none r P O D Q) : Here X cX8_readNot RX8 4 (none) d n 22 [some (.inr (.inr (8, 0, 0))), some (.inl v1), some (.inl v2), none] [] I P O D n Q := by
  unfold f_X8_readNot_22 at h
  refine h_iinc (1 : Int32) dX8_readNot_22 rfl k_iinc_1 (by decide) rfl ?_
  refine h_aload_n dX8_readNot_25 rfl ?_
  refine g_X8_199  dX8_readNot_26 ?_
  refine h_if_ne (tgt := 2) dX8_readNot_29 (by decide) (fun q1 => ?_) (fun q1 => ?_)
  · rw [if_neg q1] at h
    exact (H2 _ _ _ h)
  · rw [if_pos q1] at h
    refine h_aload_n dX8_readNot_32 rfl ?_
    obtain ⟨y1, hh1, h⟩ := obd_some h
    refine h_cVv [] (m_X8_stepOn  hh1) cw_X8_224 dX8_readNot_33 rfl ok_8 (by omega) rfl (Or.inr rfl) rfl ?_
    refine h_goto (tgt := 2) dX8_readNot_36 (by decide) ?_
    exact (H2 _ _ _ h)
theorem bx_X8_readNot_22 (X : CX) (Q : State → Prop) (rc : Mem → Int32 → Option ((Mem) ⊕ Nat)) (dr : Nat) (Hrc : ∀ {I : Mem} {P : PMem} {O : Nat → Int64} {D : Bool} {n : Nat} {v1 : Int32} {r : (Mem)}, rc I v1 = some r → MethR yX8_readExpression cX8_readExpression 3 (none) dr [.inr (.inr (8, 0, 0)), .inl v1] I P O D n none r P O D n) {d : Nat} (hd : dr + 14 ≤ d) {I : Mem} {P : PMem} {O : Nat → Int64} {D : Bool} {n : Nat} {k2 : Mem → Int32 → Int32 → Option ((Mem) ⊕ Nat)} {v1 : Int32} {v2 : Int32} {r : Nat}  (H2 : ∀ (I : Mem) (v1 : Int32) (v2 : Int32), k2 I v1 v2 = some (Sum.inr r) → Here X cX8_readNot RX8 4 (none) d (n + 1) 2 [some (.inr (.inr (8, 0, 0))), some (.inl v1), some (.inl v2), none] [] I P O D n Q) (h : f_X8_readNot_22 rc k2 I v1 v2 = some (Sum.inr r)) (E : EndX X cX8_readNot RX8 4 (none) d (n + 1) r I P O D Q) : Here X cX8_readNot RX8 4 (none) d (n + 1) 22 [some (.inr (.inr (8, 0, 0))), some (.inl v1), some (.inl v2), none] [] I P O D n Q := by
  unfold f_X8_readNot_22 at h
  refine h_iinc (1 : Int32) dX8_readNot_22 rfl k_iinc_1 (by decide) rfl ?_
  refine h_aload_n dX8_readNot_25 rfl ?_
  refine g_X8_199  dX8_readNot_26 ?_
  refine h_if_ne (tgt := 2) dX8_readNot_29 (by decide) (fun q1 => ?_) (fun q1 => ?_)
  · rw [if_neg q1] at h
    exact (H2 _ _ _ h)
  · rw [if_pos q1] at h
    refine h_aload_n dX8_readNot_32 rfl ?_
    obtain ⟨y1, hh1, h⟩ := obd_some h
    refine h_cVv [] (m_X8_stepOn  hh1) cw_X8_224 dX8_readNot_33 rfl ok_8 (by omega) rfl (Or.inr rfl) rfl ?_
    refine h_goto (tgt := 2) dX8_readNot_36 (by decide) ?_
    exact (H2 _ _ _ h)
def f_X8_readNot_2 (rc : Mem → Int32 → Option ((Mem) ⊕ Nat))   : Nat → Mem → Int32 → Int32 → Option ((Mem) ⊕ Nat)
  | 0, _, _, _ => none
  | fu + 1, I, v1, v2 =>
    thb (f_X8_is I 20) fun y1 =>
    if y1 = 0 then (thb (f_X8_readSum rc I v1) fun y2 =>
    (f_X8_isMarked y2 (60 : Int32)).bind fun y3 =>
    if y3 = 0 then ((f_X8_isMarked y2 (61 : Int32)).bind fun y4 =>
    if y4 = 0 then (f_X8_readNot_93 rc y2 v2) else (f_X8_readNot_62 rc y2 v1 v2)) else (f_X8_readNot_62 rc y2 v1 v2)) else (if v2 = (6 : Int32) then ((f_X8_wrong I (2 : Int32)).bind fun y5 =>
    f_X8_readNot_22 rc (f_X8_readNot_2 rc fu) y5 v1 v2) else (f_X8_readNot_22 rc (f_X8_readNot_2 rc fu) I v1 v2))
theorem b_X8_readNot_2 (X : CX) (Q : State → Prop) (rc : Mem → Int32 → Option ((Mem) ⊕ Nat)) (dr : Nat) (Hrc : ∀ {I : Mem} {P : PMem} {O : Nat → Int64} {D : Bool} {n : Nat} {v1 : Int32} {r : (Mem)}, rc I v1 = some r → MethR yX8_readExpression cX8_readExpression 3 (none) dr [.inr (.inr (8, 0, 0)), .inl v1] I P O D n none r P O D n) {d : Nat} (hd : dr + 14 ≤ d) {P : PMem} {O : Nat → Int64} {D : Bool} {n : Nat} {r : (Mem)}  : ∀ (fu : Nat) {I : Mem} {v1 : Int32} {v2 : Int32}, f_X8_readNot_2 rc fu I v1 v2 = some (Sum.inl r) → EndR X cX8_readNot RX8 4 (none) d n none r P O D Q → Here X cX8_readNot RX8 4 (none) d n 2 [some (.inr (.inr (8, 0, 0))), some (.inl v1), some (.inl v2), none] [] I P O D n Q := by
  intro fu
  induction fu with
  | zero => intro I v1 v2 h E; cases h
  | succ fu ih =>
  intro I v1 v2 h E
  have H2 : ∀ (I : Mem) (v1 : Int32) (v2 : Int32), f_X8_readNot_2 rc fu I v1 v2 = some (Sum.inl r) → Here X cX8_readNot RX8 4 (none) d n 2 [some (.inr (.inr (8, 0, 0))), some (.inl v1), some (.inl v2), none] [] I P O D n Q := fun _ _ _ b => ih b E
  simp only [f_X8_readNot_2] at h
  refine h_aload_n dX8_readNot_2 rfl ?_
  refine h_ldcs (text := "not") (j := 20) dX8_readNot_3 (by decide) ?_
  obtain ⟨y1, hh1, h⟩ := thb_R h
  refine h_cVi [.inr (.inr (90, 20, 0))] (m_X8_is (by decide) hh1) cw_X8_213 dX8_readNot_5 rfl ok_8 (by omega) rfl (Or.inr rfl) rfl ?_
  refine h_if_eq (tgt := 39) dX8_readNot_8 (by decide) (fun q1 => ?_) (fun q1 => ?_)
  · rw [if_pos q1] at h
    refine h_aload_n dX8_readNot_39 rfl ?_
    refine h_iload_n dX8_readNot_40 rfl ?_
    obtain ⟨y2, hh2, h⟩ := thb_R h
    refine h_cVv [.inl v1] (m_X8_readSum (d := d - 1) rc dr Hrc (by omega)  hh2) cw_X8_254 dX8_readNot_41 rfl ok_8 (by omega) rfl (Or.inr rfl) rfl ?_
    refine h_aload_n dX8_readNot_44 rfl ?_
    refine h_bipush (60 : Int32) dX8_readNot_45 k_bipush_60 ?_
    obtain ⟨y3, hh3, h⟩ := obd_some h
    refine h_cVi [.inl (60 : Int32)] (m_X8_isMarked  hh3) cw_X8_217 dX8_readNot_47 rfl ok_8 (by omega) rfl (Or.inr rfl) rfl ?_
    refine h_if_ne (tgt := 62) dX8_readNot_50 (by decide) (fun q2 => ?_) (fun q2 => ?_)
    · rw [if_neg q2] at h
      exact (b_X8_readNot_62 X Q rc dr Hrc hd  h E)
    · rw [if_pos q2] at h
      refine h_aload_n dX8_readNot_53 rfl ?_
      refine h_bipush (61 : Int32) dX8_readNot_54 k_bipush_61 ?_
      obtain ⟨y4, hh4, h⟩ := obd_some h
      refine h_cVi [.inl (61 : Int32)] (m_X8_isMarked  hh4) cw_X8_217 dX8_readNot_56 rfl ok_8 (by omega) rfl (Or.inr rfl) rfl ?_
      refine h_if_eq (tgt := 93) dX8_readNot_59 (by decide) (fun q3 => ?_) (fun q3 => ?_)
      · rw [if_pos q3] at h
        exact h_mask [true, false, true, false] (b_X8_readNot_93 X Q rc dr Hrc hd  h E)
      · rw [if_neg q3] at h
        exact (b_X8_readNot_62 X Q rc dr Hrc hd  h E)
  · rw [if_neg q1] at h
    refine h_iload_n dX8_readNot_11 rfl ?_
    refine h_bipush (6 : Int32) dX8_readNot_12 k_bipush_6 ?_
    refine h_icmp_ne (tgt := 22) dX8_readNot_14 (by decide) (fun q4 => ?_) (fun q4 => ?_)
    · rw [if_neg q4] at h
      exact (b_X8_readNot_22 X Q rc dr Hrc hd H2  h E)
    · rw [if_pos q4] at h
      refine h_aload_n dX8_readNot_17 rfl ?_
      refine h_iconst (2 : Int32) dX8_readNot_18 k_iconst_2 ?_
      obtain ⟨y5, hh5, h⟩ := obd_some h
      refine h_cVv [.inl (2 : Int32)] (m_X8_wrong  hh5) cw_X8_220 dX8_readNot_19 rfl ok_8 (by omega) rfl (Or.inr rfl) rfl ?_
      exact (b_X8_readNot_22 X Q rc dr Hrc hd H2  h E)
theorem bx_X8_readNot_2 (X : CX) (Q : State → Prop) (rc : Mem → Int32 → Option ((Mem) ⊕ Nat)) (dr : Nat) (Hrc : ∀ {I : Mem} {P : PMem} {O : Nat → Int64} {D : Bool} {n : Nat} {v1 : Int32} {r : (Mem)}, rc I v1 = some r → MethR yX8_readExpression cX8_readExpression 3 (none) dr [.inr (.inr (8, 0, 0)), .inl v1] I P O D n none r P O D n) {d : Nat} (hd : dr + 14 ≤ d) {P : PMem} {O : Nat → Int64} {D : Bool} {n : Nat} {r : Nat}  : ∀ (fu : Nat) {I : Mem} {v1 : Int32} {v2 : Int32}, f_X8_readNot_2 rc fu I v1 v2 = some (Sum.inr r) → EndX X cX8_readNot RX8 4 (none) d (n + 1) r I P O D Q → Here X cX8_readNot RX8 4 (none) d (n + 1) 2 [some (.inr (.inr (8, 0, 0))), some (.inl v1), some (.inl v2), none] [] I P O D n Q := by
  intro fu
  induction fu with
  | zero => intro I v1 v2 h E; cases h
  | succ fu ih =>
  intro I v1 v2 h E
  have H2 : ∀ (I : Mem) (v1 : Int32) (v2 : Int32), f_X8_readNot_2 rc fu I v1 v2 = some (Sum.inr r) → Here X cX8_readNot RX8 4 (none) d (n + 1) 2 [some (.inr (.inr (8, 0, 0))), some (.inl v1), some (.inl v2), none] [] I P O D n Q := fun _ _ _ b => ih b E
  simp only [f_X8_readNot_2] at h
  refine h_aload_n dX8_readNot_2 rfl ?_
  refine h_ldcs (text := "not") (j := 20) dX8_readNot_3 (by decide) ?_
  rcases thb_X h with hh1 | ⟨y1, hh1, h⟩
  · exact h_callVX (as := [.inr (.inr (90, 20, 0))]) (mx_X8_is (by decide) hh1) cw_X8_213 dX8_readNot_5 rfl ok_8 (by omega) rfl rfl E
  refine h_cVi [.inr (.inr (90, 20, 0))] (m_X8_is (by decide) hh1) cw_X8_213 dX8_readNot_5 rfl ok_8 (by omega) rfl (Or.inr rfl) rfl ?_
  refine h_if_eq (tgt := 39) dX8_readNot_8 (by decide) (fun q1 => ?_) (fun q1 => ?_)
  · rw [if_pos q1] at h
    refine h_aload_n dX8_readNot_39 rfl ?_
    refine h_iload_n dX8_readNot_40 rfl ?_
    rcases thb_X h with hh2 | ⟨y2, hh2, h⟩
    · exact h_callVX (as := [.inl v1]) (mx_X8_readSum  hh2) cw_X8_254 dX8_readNot_41 rfl ok_8 (by omega) rfl rfl E
    refine h_cVv [.inl v1] (m_X8_readSum (d := d - 1) rc dr Hrc (by omega)  hh2) cw_X8_254 dX8_readNot_41 rfl ok_8 (by omega) rfl (Or.inr rfl) rfl ?_
    refine h_aload_n dX8_readNot_44 rfl ?_
    refine h_bipush (60 : Int32) dX8_readNot_45 k_bipush_60 ?_
    obtain ⟨y3, hh3, h⟩ := obd_some h
    refine h_cVi [.inl (60 : Int32)] (m_X8_isMarked  hh3) cw_X8_217 dX8_readNot_47 rfl ok_8 (by omega) rfl (Or.inr rfl) rfl ?_
    refine h_if_ne (tgt := 62) dX8_readNot_50 (by decide) (fun q2 => ?_) (fun q2 => ?_)
    · rw [if_neg q2] at h
      exact (bx_X8_readNot_62 X Q rc dr Hrc hd  h E)
    · rw [if_pos q2] at h
      refine h_aload_n dX8_readNot_53 rfl ?_
      refine h_bipush (61 : Int32) dX8_readNot_54 k_bipush_61 ?_
      obtain ⟨y4, hh4, h⟩ := obd_some h
      refine h_cVi [.inl (61 : Int32)] (m_X8_isMarked  hh4) cw_X8_217 dX8_readNot_56 rfl ok_8 (by omega) rfl (Or.inr rfl) rfl ?_
      refine h_if_eq (tgt := 93) dX8_readNot_59 (by decide) (fun q3 => ?_) (fun q3 => ?_)
      · rw [if_pos q3] at h
        exact h_mask [true, false, true, false] (bx_X8_readNot_93 X Q rc dr Hrc hd  h E)
      · rw [if_neg q3] at h
        exact (bx_X8_readNot_62 X Q rc dr Hrc hd  h E)
  · rw [if_neg q1] at h
    refine h_iload_n dX8_readNot_11 rfl ?_
    refine h_bipush (6 : Int32) dX8_readNot_12 k_bipush_6 ?_
    refine h_icmp_ne (tgt := 22) dX8_readNot_14 (by decide) (fun q4 => ?_) (fun q4 => ?_)
    · rw [if_neg q4] at h
      exact (bx_X8_readNot_22 X Q rc dr Hrc hd H2  h E)
    · rw [if_pos q4] at h
      refine h_aload_n dX8_readNot_17 rfl ?_
      refine h_iconst (2 : Int32) dX8_readNot_18 k_iconst_2 ?_
      obtain ⟨y5, hh5, h⟩ := obd_some h
      refine h_cVv [.inl (2 : Int32)] (m_X8_wrong  hh5) cw_X8_220 dX8_readNot_19 rfl ok_8 (by omega) rfl (Or.inr rfl) rfl ?_
      exact (bx_X8_readNot_22 X Q rc dr Hrc hd H2  h E)
def f_X8_readNot (rc : Mem → Int32 → Option ((Mem) ⊕ Nat))   (I : Mem) (v1 : Int32) : Option ((Mem) ⊕ Nat) :=
  f_X8_readNot_2 rc FU I v1 (0 : Int32)
theorem b_X8_readNot (X : CX) (Q : State → Prop) (rc : Mem → Int32 → Option ((Mem) ⊕ Nat)) (dr : Nat) (Hrc : ∀ {I : Mem} {P : PMem} {O : Nat → Int64} {D : Bool} {n : Nat} {v1 : Int32} {r : (Mem)}, rc I v1 = some r → MethR yX8_readExpression cX8_readExpression 3 (none) dr [.inr (.inr (8, 0, 0)), .inl v1] I P O D n none r P O D n) {d : Nat} (hd : dr + 14 ≤ d) {I : Mem} {P : PMem} {O : Nat → Int64} {D : Bool} {n : Nat} {v1 : Int32} {r : (Mem)}  (h : f_X8_readNot rc I v1 = some (Sum.inl r)) (E : EndR X cX8_readNot RX8 4 (none) d n none r P O D Q) : Here X cX8_readNot RX8 4 (none) d n 0 [some (.inr (.inr (8, 0, 0))), some (.inl v1), none, none] [] I P O D n Q := by
  unfold f_X8_readNot at h
  refine h_iconst (0 : Int32) dX8_readNot_0 k_iconst_0 ?_
  refine h_istore_n dX8_readNot_1 (by decide) rfl ?_
  exact (b_X8_readNot_2 X Q rc dr Hrc hd FU  h E)
theorem bx_X8_readNot (X : CX) (Q : State → Prop) (rc : Mem → Int32 → Option ((Mem) ⊕ Nat)) (dr : Nat) (Hrc : ∀ {I : Mem} {P : PMem} {O : Nat → Int64} {D : Bool} {n : Nat} {v1 : Int32} {r : (Mem)}, rc I v1 = some r → MethR yX8_readExpression cX8_readExpression 3 (none) dr [.inr (.inr (8, 0, 0)), .inl v1] I P O D n none r P O D n) {d : Nat} (hd : dr + 14 ≤ d) {I : Mem} {P : PMem} {O : Nat → Int64} {D : Bool} {n : Nat} {v1 : Int32} {r : Nat}  (h : f_X8_readNot rc I v1 = some (Sum.inr r)) (E : EndX X cX8_readNot RX8 4 (none) d (n + 1) r I P O D Q) : Here X cX8_readNot RX8 4 (none) d (n + 1) 0 [some (.inr (.inr (8, 0, 0))), some (.inl v1), none, none] [] I P O D n Q := by
  unfold f_X8_readNot at h
  refine h_iconst (0 : Int32) dX8_readNot_0 k_iconst_0 ?_
  refine h_istore_n dX8_readNot_1 (by decide) rfl ?_
  exact (bx_X8_readNot_2 X Q rc dr Hrc hd FU  h E)
theorem m_X8_readNot (rc : Mem → Int32 → Option ((Mem) ⊕ Nat)) (dr : Nat) (Hrc : ∀ {I : Mem} {P : PMem} {O : Nat → Int64} {D : Bool} {n : Nat} {v1 : Int32} {r : (Mem)}, rc I v1 = some r → MethR yX8_readExpression cX8_readExpression 3 (none) dr [.inr (.inr (8, 0, 0)), .inl v1] I P O D n none r P O D n) {d : Nat} (hd : dr + 14 ≤ d) {I : Mem} {P : PMem} {O : Nat → Int64} {D : Bool} {n : Nat} {v1 : Int32} {r : (Mem)}  (h : f_X8_readNot rc I v1 = some (Sum.inl r)) : MethR yX8_readNot cX8_readNot 4 (none) d [.inr (.inr (8, 0, 0)), .inl v1] I P O D n none r P O D n := meth_R (Nat.le_refl _) (by decide) rfl (Nat.le_of_ble_eq_true rfl) rfl (fun X Q E => b_X8_readNot X Q rc dr Hrc hd  h E)
theorem mx_X8_readNot {I : Mem} {P : PMem} {O : Nat → Int64} {D : Bool} {n : Nat} {v1 : Int32} {r : Nat}  (h : f_X8_readNot rc I v1 = some (Sum.inr r)) : MethX yX8_readNot cX8_readNot 4 (none) d [.inr (.inr (8, 0, 0)), .inl v1] I P O D n r I P O D (n + 1) := meth_X (Nat.le_succ _) (by decide) rfl (Nat.le_of_ble_eq_true rfl) rfl (fun X Q E => bx_X8_readNot X Q  h E)
def f_X8_readAnd_5 (rc : Mem → Int32 → Option ((Mem) ⊕ Nat))   : Nat → Mem → Int32 → Option ((Mem) ⊕ Nat)
  | 0, _, _ => none
  | fu + 1, I, v1 =>
    thb (f_X8_is I 8) fun y1 =>
    if y1 = 0 then (some (Sum.inl I)) else ((f_X8_stepOn I).bind fun y2 =>
    thb (f_X8_readNot rc y2 v1) fun y3 =>
    (f_X8_lay y3 (-26 : Int32)).bind fun y4 =>
    (f_X8_readAnd_5 rc fu) y4 v1)
theorem b_X8_readAnd_5 (X : CX) (Q : State → Prop) (rc : Mem → Int32 → Option ((Mem) ⊕ Nat)) (dr : Nat) (Hrc : ∀ {I : Mem} {P : PMem} {O : Nat → Int64} {D : Bool} {n : Nat} {v1 : Int32} {r : (Mem)}, rc I v1 = some r → MethR yX8_readExpression cX8_readExpression 3 (none) dr [.inr (.inr (8, 0, 0)), .inl v1] I P O D n none r P O D n) {d : Nat} (hd : dr + 15 ≤ d) {P : PMem} {O : Nat → Int64} {D : Bool} {n : Nat} {r : (Mem)}  : ∀ (fu : Nat) {I : Mem} {v1 : Int32}, f_X8_readAnd_5 rc fu I v1 = some (Sum.inl r) → EndR X cX8_readAnd RX8 2 (none) d n none r P O D Q → Here X cX8_readAnd RX8 2 (none) d n 5 [some (.inr (.inr (8, 0, 0))), some (.inl v1)] [] I P O D n Q := by
  intro fu
  induction fu with
  | zero => intro I v1 h E; cases h
  | succ fu ih =>
  intro I v1 h E
  have H5 : ∀ (I : Mem) (v1 : Int32), f_X8_readAnd_5 rc fu I v1 = some (Sum.inl r) → Here X cX8_readAnd RX8 2 (none) d n 5 [some (.inr (.inr (8, 0, 0))), some (.inl v1)] [] I P O D n Q := fun _ _ b => ih b E
  simp only [f_X8_readAnd_5] at h
  refine h_aload_n dX8_readAnd_5 rfl ?_
  refine h_ldcws (text := "and") (j := 8) dX8_readAnd_6 (by decide) ?_
  obtain ⟨y1, hh1, h⟩ := thb_R h
  refine h_cVi [.inr (.inr (90, 8, 0))] (m_X8_is (by decide) hh1) cw_X8_213 dX8_readAnd_9 rfl ok_8 (by omega) rfl (Or.inr rfl) rfl ?_
  refine h_if_eq (tgt := 33) dX8_readAnd_12 (by decide) (fun q1 => ?_) (fun q1 => ?_)
  · rw [if_pos q1] at h
    cases h
    exact h_vret dX8_readAnd_33 rfl E
  · rw [if_neg q1] at h
    refine h_aload_n dX8_readAnd_15 rfl ?_
    obtain ⟨y2, hh2, h⟩ := obd_some h
    refine h_cVv [] (m_X8_stepOn  hh2) cw_X8_224 dX8_readAnd_16 rfl ok_8 (by omega) rfl (Or.inr rfl) rfl ?_
    refine h_aload_n dX8_readAnd_19 rfl ?_
    refine h_iload_n dX8_readAnd_20 rfl ?_
    obtain ⟨y3, hh3, h⟩ := thb_R h
    refine h_cVv [.inl v1] (m_X8_readNot (d := d - 1) rc dr Hrc (by omega)  hh3) cw_X8_257 dX8_readAnd_21 rfl ok_8 (by omega) rfl (Or.inr rfl) rfl ?_
    refine h_aload_n dX8_readAnd_24 rfl ?_
    refine h_bipush (-26 : Int32) dX8_readAnd_25 k_bipush_m26 ?_
    obtain ⟨y4, hh4, h⟩ := obd_some h
    refine h_cVv [.inl (-26 : Int32)] (m_X8_lay  hh4) cw_X8_233 dX8_readAnd_27 rfl ok_8 (by omega) rfl (Or.inr rfl) rfl ?_
    refine h_goto (tgt := 5) dX8_readAnd_30 (by decide) ?_
    exact (H5 _ _ h)
theorem bx_X8_readAnd_5 (X : CX) (Q : State → Prop) (rc : Mem → Int32 → Option ((Mem) ⊕ Nat)) (dr : Nat) (Hrc : ∀ {I : Mem} {P : PMem} {O : Nat → Int64} {D : Bool} {n : Nat} {v1 : Int32} {r : (Mem)}, rc I v1 = some r → MethR yX8_readExpression cX8_readExpression 3 (none) dr [.inr (.inr (8, 0, 0)), .inl v1] I P O D n none r P O D n) {d : Nat} (hd : dr + 15 ≤ d) {P : PMem} {O : Nat → Int64} {D : Bool} {n : Nat} {r : Nat}  : ∀ (fu : Nat) {I : Mem} {v1 : Int32}, f_X8_readAnd_5 rc fu I v1 = some (Sum.inr r) → EndX X cX8_readAnd RX8 2 (none) d (n + 1) r I P O D Q → Here X cX8_readAnd RX8 2 (none) d (n + 1) 5 [some (.inr (.inr (8, 0, 0))), some (.inl v1)] [] I P O D n Q := by
  intro fu
  induction fu with
  | zero => intro I v1 h E; cases h
  | succ fu ih =>
  intro I v1 h E
  have H5 : ∀ (I : Mem) (v1 : Int32), f_X8_readAnd_5 rc fu I v1 = some (Sum.inr r) → Here X cX8_readAnd RX8 2 (none) d (n + 1) 5 [some (.inr (.inr (8, 0, 0))), some (.inl v1)] [] I P O D n Q := fun _ _ b => ih b E
  simp only [f_X8_readAnd_5] at h
  refine h_aload_n dX8_readAnd_5 rfl ?_
  refine h_ldcws (text := "and") (j := 8) dX8_readAnd_6 (by decide) ?_
  rcases thb_X h with hh1 | ⟨y1, hh1, h⟩
  · exact h_callVX (as := [.inr (.inr (90, 8, 0))]) (mx_X8_is (by decide) hh1) cw_X8_213 dX8_readAnd_9 rfl ok_8 (by omega) rfl rfl E
  refine h_cVi [.inr (.inr (90, 8, 0))] (m_X8_is (by decide) hh1) cw_X8_213 dX8_readAnd_9 rfl ok_8 (by omega) rfl (Or.inr rfl) rfl ?_
  refine h_if_eq (tgt := 33) dX8_readAnd_12 (by decide) (fun q1 => ?_) (fun q1 => ?_)
  · rw [if_pos q1] at h
    cases h
  · rw [if_neg q1] at h
    refine h_aload_n dX8_readAnd_15 rfl ?_
    obtain ⟨y2, hh2, h⟩ := obd_some h
    refine h_cVv [] (m_X8_stepOn  hh2) cw_X8_224 dX8_readAnd_16 rfl ok_8 (by omega) rfl (Or.inr rfl) rfl ?_
    refine h_aload_n dX8_readAnd_19 rfl ?_
    refine h_iload_n dX8_readAnd_20 rfl ?_
    rcases thb_X h with hh3 | ⟨y3, hh3, h⟩
    · exact h_callVX (as := [.inl v1]) (mx_X8_readNot  hh3) cw_X8_257 dX8_readAnd_21 rfl ok_8 (by omega) rfl rfl E
    refine h_cVv [.inl v1] (m_X8_readNot (d := d - 1) rc dr Hrc (by omega)  hh3) cw_X8_257 dX8_readAnd_21 rfl ok_8 (by omega) rfl (Or.inr rfl) rfl ?_
    refine h_aload_n dX8_readAnd_24 rfl ?_
    refine h_bipush (-26 : Int32) dX8_readAnd_25 k_bipush_m26 ?_
    obtain ⟨y4, hh4, h⟩ := obd_some h
    refine h_cVv [.inl (-26 : Int32)] (m_X8_lay  hh4) cw_X8_233 dX8_readAnd_27 rfl ok_8 (by omega) rfl (Or.inr rfl) rfl ?_
    refine h_goto (tgt := 5) dX8_readAnd_30 (by decide) ?_
    exact (H5 _ _ h)
def f_X8_readAnd (rc : Mem → Int32 → Option ((Mem) ⊕ Nat))   (I : Mem) (v1 : Int32) : Option ((Mem) ⊕ Nat) :=
  thb (f_X8_readNot rc I v1) fun y1 =>
  f_X8_readAnd_5 rc FU y1 v1
theorem b_X8_readAnd (X : CX) (Q : State → Prop) (rc : Mem → Int32 → Option ((Mem) ⊕ Nat)) (dr : Nat) (Hrc : ∀ {I : Mem} {P : PMem} {O : Nat → Int64} {D : Bool} {n : Nat} {v1 : Int32} {r : (Mem)}, rc I v1 = some r → MethR yX8_readExpression cX8_readExpression 3 (none) dr [.inr (.inr (8, 0, 0)), .inl v1] I P O D n none r P O D n) {d : Nat} (hd : dr + 15 ≤ d) {I : Mem} {P : PMem} {O : Nat → Int64} {D : Bool} {n : Nat} {v1 : Int32} {r : (Mem)}  (h : f_X8_readAnd rc I v1 = some (Sum.inl r)) (E : EndR X cX8_readAnd RX8 2 (none) d n none r P O D Q) : Here X cX8_readAnd RX8 2 (none) d n 0 [some (.inr (.inr (8, 0, 0))), some (.inl v1)] [] I P O D n Q := by
  unfold f_X8_readAnd at h
  refine h_aload_n dX8_readAnd_0 rfl ?_
  refine h_iload_n dX8_readAnd_1 rfl ?_
  obtain ⟨y1, hh1, h⟩ := thb_R h
  refine h_cVv [.inl v1] (m_X8_readNot (d := d - 1) rc dr Hrc (by omega)  hh1) cw_X8_257 dX8_readAnd_2 rfl ok_8 (by omega) rfl (Or.inr rfl) rfl ?_
  exact (b_X8_readAnd_5 X Q rc dr Hrc hd FU  h E)
theorem bx_X8_readAnd (X : CX) (Q : State → Prop) (rc : Mem → Int32 → Option ((Mem) ⊕ Nat)) (dr : Nat) (Hrc : ∀ {I : Mem} {P : PMem} {O : Nat → Int64} {D : Bool} {n : Nat} {v1 : Int32} {r : (Mem)}, rc I v1 = some r → MethR yX8_readExpression cX8_readExpression 3 (none) dr [.inr (.inr (8, 0, 0)), .inl v1] I P O D n none r P O D n) {d : Nat} (hd : dr + 15 ≤ d) {I : Mem} {P : PMem} {O : Nat → Int64} {D : Bool} {n : Nat} {v1 : Int32} {r : Nat}  (h : f_X8_readAnd rc I v1 = some (Sum.inr r)) (E : EndX X cX8_readAnd RX8 2 (none) d (n + 1) r I P O D Q) : Here X cX8_readAnd RX8 2 (none) d (n + 1) 0 [some (.inr (.inr (8, 0, 0))), some (.inl v1)] [] I P O D n Q := by
  unfold f_X8_readAnd at h
  refine h_aload_n dX8_readAnd_0 rfl ?_
  refine h_iload_n dX8_readAnd_1 rfl ?_
  rcases thb_X h with hh1 | ⟨y1, hh1, h⟩
  · exact h_callVX (as := [.inl v1]) (mx_X8_readNot  hh1) cw_X8_257 dX8_readAnd_2 rfl ok_8 (by omega) rfl rfl E
  refine h_cVv [.inl v1] (m_X8_readNot (d := d - 1) rc dr Hrc (by omega)  hh1) cw_X8_257 dX8_readAnd_2 rfl ok_8 (by omega) rfl (Or.inr rfl) rfl ?_
  exact (bx_X8_readAnd_5 X Q rc dr Hrc hd FU  h E)
theorem m_X8_readAnd (rc : Mem → Int32 → Option ((Mem) ⊕ Nat)) (dr : Nat) (Hrc : ∀ {I : Mem} {P : PMem} {O : Nat → Int64} {D : Bool} {n : Nat} {v1 : Int32} {r : (Mem)}, rc I v1 = some r → MethR yX8_readExpression cX8_readExpression 3 (none) dr [.inr (.inr (8, 0, 0)), .inl v1] I P O D n none r P O D n) {d : Nat} (hd : dr + 15 ≤ d) {I : Mem} {P : PMem} {O : Nat → Int64} {D : Bool} {n : Nat} {v1 : Int32} {r : (Mem)}  (h : f_X8_readAnd rc I v1 = some (Sum.inl r)) : MethR yX8_readAnd cX8_readAnd 2 (none) d [.inr (.inr (8, 0, 0)), .inl v1] I P O D n none r P O D n := meth_R (Nat.le_refl _) (by decide) rfl (Nat.le_of_ble_eq_true rfl) rfl (fun X Q E => b_X8_readAnd X Q rc dr Hrc hd  h E)
theorem mx_X8_readAnd {I : Mem} {P : PMem} {O : Nat → Int64} {D : Bool} {n : Nat} {v1 : Int32} {r : Nat}  (h : f_X8_readAnd rc I v1 = some (Sum.inr r)) : MethX yX8_readAnd cX8_readAnd 2 (none) d [.inr (.inr (8, 0, 0)), .inl v1] I P O D n r I P O D (n + 1) := meth_X (Nat.le_succ _) (by decide) rfl (Nat.le_of_ble_eq_true rfl) rfl (fun X Q E => bx_X8_readAnd X Q  h E)
def f_X8_readExpression_67 (rc : Mem → Int32 → Option ((Mem) ⊕ Nat))   : Nat → Mem → Int32 → Option ((Mem) ⊕ Nat)
  | 0, _, _ => none
  | fu + 1, I, v1 =>
    thb (f_X8_is I 22) fun y1 =>
    if y1 = 0 then (some (Sum.inl I)) else ((f_X8_stepOn I).bind fun y2 =>
    thb (f_X8_readAnd rc y2 v1) fun y3 =>
    (f_X8_lay y3 (-27 : Int32)).bind fun y4 =>
    (f_X8_readExpression_67 rc fu) y4 v1)
theorem b_X8_readExpression_67 (X : CX) (Q : State → Prop) (rc : Mem → Int32 → Option ((Mem) ⊕ Nat)) (dr : Nat) (Hrc : ∀ {I : Mem} {P : PMem} {O : Nat → Int64} {D : Bool} {n : Nat} {v1 : Int32} {r : (Mem)}, rc I v1 = some r → MethR yX8_readExpression cX8_readExpression 3 (none) dr [.inr (.inr (8, 0, 0)), .inl v1] I P O D n none r P O D n) {d : Nat} (hd : dr + 16 ≤ d) {P : PMem} {O : Nat → Int64} {D : Bool} {n : Nat} {r : (Mem)}  : ∀ (fu : Nat) {I : Mem} {v1 : Int32}, f_X8_readExpression_67 rc fu I v1 = some (Sum.inl r) → EndR X cX8_readExpression RX8 3 (none) d n none r P O D Q → Here X cX8_readExpression RX8 3 (none) d n 67 [some (.inr (.inr (8, 0, 0))), some (.inl v1), none] [] I P O D n Q := by
  intro fu
  induction fu with
  | zero => intro I v1 h E; cases h
  | succ fu ih =>
  intro I v1 h E
  have H67 : ∀ (I : Mem) (v1 : Int32), f_X8_readExpression_67 rc fu I v1 = some (Sum.inl r) → Here X cX8_readExpression RX8 3 (none) d n 67 [some (.inr (.inr (8, 0, 0))), some (.inl v1), none] [] I P O D n Q := fun _ _ b => ih b E
  simp only [f_X8_readExpression_67] at h
  refine h_aload_n dX8_readExpression_67 rfl ?_
  refine h_ldcws (text := "or") (j := 22) dX8_readExpression_68 (by decide) ?_
  obtain ⟨y1, hh1, h⟩ := thb_R h
  refine h_cVi [.inr (.inr (90, 22, 0))] (m_X8_is (by decide) hh1) cw_X8_213 dX8_readExpression_71 rfl ok_8 (by omega) rfl (Or.inr rfl) rfl ?_
  refine h_if_eq (tgt := 95) dX8_readExpression_74 (by decide) (fun q1 => ?_) (fun q1 => ?_)
  · rw [if_pos q1] at h
    cases h
    exact h_vret dX8_readExpression_95 rfl E
  · rw [if_neg q1] at h
    refine h_aload_n dX8_readExpression_77 rfl ?_
    obtain ⟨y2, hh2, h⟩ := obd_some h
    refine h_cVv [] (m_X8_stepOn  hh2) cw_X8_224 dX8_readExpression_78 rfl ok_8 (by omega) rfl (Or.inr rfl) rfl ?_
    refine h_aload_n dX8_readExpression_81 rfl ?_
    refine h_iload_n dX8_readExpression_82 rfl ?_
    obtain ⟨y3, hh3, h⟩ := thb_R h
    refine h_cVv [.inl v1] (m_X8_readAnd (d := d - 1) rc dr Hrc (by omega)  hh3) cw_X8_262 dX8_readExpression_83 rfl ok_8 (by omega) rfl (Or.inr rfl) rfl ?_
    refine h_aload_n dX8_readExpression_86 rfl ?_
    refine h_bipush (-27 : Int32) dX8_readExpression_87 k_bipush_m27 ?_
    obtain ⟨y4, hh4, h⟩ := obd_some h
    refine h_cVv [.inl (-27 : Int32)] (m_X8_lay  hh4) cw_X8_233 dX8_readExpression_89 rfl ok_8 (by omega) rfl (Or.inr rfl) rfl ?_
    refine h_goto (tgt := 67) dX8_readExpression_92 (by decide) ?_
    exact (H67 _ _ h)
theorem bx_X8_readExpression_67 (X : CX) (Q : State → Prop) (rc : Mem → Int32 → Option ((Mem) ⊕ Nat)) (dr : Nat) (Hrc : ∀ {I : Mem} {P : PMem} {O : Nat → Int64} {D : Bool} {n : Nat} {v1 : Int32} {r : (Mem)}, rc I v1 = some r → MethR yX8_readExpression cX8_readExpression 3 (none) dr [.inr (.inr (8, 0, 0)), .inl v1] I P O D n none r P O D n) {d : Nat} (hd : dr + 16 ≤ d) {P : PMem} {O : Nat → Int64} {D : Bool} {n : Nat} {r : Nat}  : ∀ (fu : Nat) {I : Mem} {v1 : Int32}, f_X8_readExpression_67 rc fu I v1 = some (Sum.inr r) → EndX X cX8_readExpression RX8 3 (none) d (n + 1) r I P O D Q → Here X cX8_readExpression RX8 3 (none) d (n + 1) 67 [some (.inr (.inr (8, 0, 0))), some (.inl v1), none] [] I P O D n Q := by
  intro fu
  induction fu with
  | zero => intro I v1 h E; cases h
  | succ fu ih =>
  intro I v1 h E
  have H67 : ∀ (I : Mem) (v1 : Int32), f_X8_readExpression_67 rc fu I v1 = some (Sum.inr r) → Here X cX8_readExpression RX8 3 (none) d (n + 1) 67 [some (.inr (.inr (8, 0, 0))), some (.inl v1), none] [] I P O D n Q := fun _ _ b => ih b E
  simp only [f_X8_readExpression_67] at h
  refine h_aload_n dX8_readExpression_67 rfl ?_
  refine h_ldcws (text := "or") (j := 22) dX8_readExpression_68 (by decide) ?_
  rcases thb_X h with hh1 | ⟨y1, hh1, h⟩
  · exact h_callVX (as := [.inr (.inr (90, 22, 0))]) (mx_X8_is (by decide) hh1) cw_X8_213 dX8_readExpression_71 rfl ok_8 (by omega) rfl rfl E
  refine h_cVi [.inr (.inr (90, 22, 0))] (m_X8_is (by decide) hh1) cw_X8_213 dX8_readExpression_71 rfl ok_8 (by omega) rfl (Or.inr rfl) rfl ?_
  refine h_if_eq (tgt := 95) dX8_readExpression_74 (by decide) (fun q1 => ?_) (fun q1 => ?_)
  · rw [if_pos q1] at h
    cases h
  · rw [if_neg q1] at h
    refine h_aload_n dX8_readExpression_77 rfl ?_
    obtain ⟨y2, hh2, h⟩ := obd_some h
    refine h_cVv [] (m_X8_stepOn  hh2) cw_X8_224 dX8_readExpression_78 rfl ok_8 (by omega) rfl (Or.inr rfl) rfl ?_
    refine h_aload_n dX8_readExpression_81 rfl ?_
    refine h_iload_n dX8_readExpression_82 rfl ?_
    rcases thb_X h with hh3 | ⟨y3, hh3, h⟩
    · exact h_callVX (as := [.inl v1]) (mx_X8_readAnd  hh3) cw_X8_262 dX8_readExpression_83 rfl ok_8 (by omega) rfl rfl E
    refine h_cVv [.inl v1] (m_X8_readAnd (d := d - 1) rc dr Hrc (by omega)  hh3) cw_X8_262 dX8_readExpression_83 rfl ok_8 (by omega) rfl (Or.inr rfl) rfl ?_
    refine h_aload_n dX8_readExpression_86 rfl ?_
    refine h_bipush (-27 : Int32) dX8_readExpression_87 k_bipush_m27 ?_
    obtain ⟨y4, hh4, h⟩ := obd_some h
    refine h_cVv [.inl (-27 : Int32)] (m_X8_lay  hh4) cw_X8_233 dX8_readExpression_89 rfl ok_8 (by omega) rfl (Or.inr rfl) rfl ?_
    refine h_goto (tgt := 67) dX8_readExpression_92 (by decide) ?_
    exact (H67 _ _ h)
def f_X8_readExpression_62 (rc : Mem → Int32 → Option ((Mem) ⊕ Nat))   (I : Mem) (v1 : Int32) : Option ((Mem) ⊕ Nat) :=
  thb (f_X8_readAnd rc I v1) fun y1 =>
  f_X8_readExpression_67 rc FU y1 v1
theorem b_X8_readExpression_62 (X : CX) (Q : State → Prop) (rc : Mem → Int32 → Option ((Mem) ⊕ Nat)) (dr : Nat) (Hrc : ∀ {I : Mem} {P : PMem} {O : Nat → Int64} {D : Bool} {n : Nat} {v1 : Int32} {r : (Mem)}, rc I v1 = some r → MethR yX8_readExpression cX8_readExpression 3 (none) dr [.inr (.inr (8, 0, 0)), .inl v1] I P O D n none r P O D n) {d : Nat} (hd : dr + 16 ≤ d) {I : Mem} {P : PMem} {O : Nat → Int64} {D : Bool} {n : Nat} {v1 : Int32} {r : (Mem)}  (h : f_X8_readExpression_62 rc I v1 = some (Sum.inl r)) (E : EndR X cX8_readExpression RX8 3 (none) d n none r P O D Q) : Here X cX8_readExpression RX8 3 (none) d n 62 [some (.inr (.inr (8, 0, 0))), some (.inl v1), none] [] I P O D n Q := by
  unfold f_X8_readExpression_62 at h
  refine h_aload_n dX8_readExpression_62 rfl ?_
  refine h_iload_n dX8_readExpression_63 rfl ?_
  obtain ⟨y1, hh1, h⟩ := thb_R h
  refine h_cVv [.inl v1] (m_X8_readAnd (d := d - 1) rc dr Hrc (by omega)  hh1) cw_X8_262 dX8_readExpression_64 rfl ok_8 (by omega) rfl (Or.inr rfl) rfl ?_
  exact (b_X8_readExpression_67 X Q rc dr Hrc hd FU  h E)
theorem bx_X8_readExpression_62 (X : CX) (Q : State → Prop) (rc : Mem → Int32 → Option ((Mem) ⊕ Nat)) (dr : Nat) (Hrc : ∀ {I : Mem} {P : PMem} {O : Nat → Int64} {D : Bool} {n : Nat} {v1 : Int32} {r : (Mem)}, rc I v1 = some r → MethR yX8_readExpression cX8_readExpression 3 (none) dr [.inr (.inr (8, 0, 0)), .inl v1] I P O D n none r P O D n) {d : Nat} (hd : dr + 16 ≤ d) {I : Mem} {P : PMem} {O : Nat → Int64} {D : Bool} {n : Nat} {v1 : Int32} {r : Nat}  (h : f_X8_readExpression_62 rc I v1 = some (Sum.inr r)) (E : EndX X cX8_readExpression RX8 3 (none) d (n + 1) r I P O D Q) : Here X cX8_readExpression RX8 3 (none) d (n + 1) 62 [some (.inr (.inr (8, 0, 0))), some (.inl v1), none] [] I P O D n Q := by
  unfold f_X8_readExpression_62 at h
  refine h_aload_n dX8_readExpression_62 rfl ?_
  refine h_iload_n dX8_readExpression_63 rfl ?_
  rcases thb_X h with hh1 | ⟨y1, hh1, h⟩
  · exact h_callVX (as := [.inl v1]) (mx_X8_readAnd  hh1) cw_X8_262 dX8_readExpression_64 rfl ok_8 (by omega) rfl rfl E
  refine h_cVv [.inl v1] (m_X8_readAnd (d := d - 1) rc dr Hrc (by omega)  hh1) cw_X8_262 dX8_readExpression_64 rfl ok_8 (by omega) rfl (Or.inr rfl) rfl ?_
  exact (bx_X8_readExpression_67 X Q rc dr Hrc hd FU  h E)
def f_X8_readExpression_38 (rc : Mem → Int32 → Option ((Mem) ⊕ Nat))   (I : Mem) (v1 : Int32) (s0 : Int32) : Option ((Mem) ⊕ Nat) :=
  if s0 = 0 then ((f_X8_wrong I (1 : Int32)).bind fun y2 =>
  f_X8_readExpression_62 rc y2 v1) else (if v1 = (6 : Int32) then ((f_X8_wrong I (2 : Int32)).bind fun y1 =>
  f_X8_readExpression_62 rc y1 v1) else (f_X8_readExpression_62 rc I v1))
theorem b_X8_readExpression_38 (X : CX) (Q : State → Prop) (rc : Mem → Int32 → Option ((Mem) ⊕ Nat)) (dr : Nat) (Hrc : ∀ {I : Mem} {P : PMem} {O : Nat → Int64} {D : Bool} {n : Nat} {v1 : Int32} {r : (Mem)}, rc I v1 = some r → MethR yX8_readExpression cX8_readExpression 3 (none) dr [.inr (.inr (8, 0, 0)), .inl v1] I P O D n none r P O D n) {d : Nat} (hd : dr + 16 ≤ d) {I : Mem} {P : PMem} {O : Nat → Int64} {D : Bool} {n : Nat} {v1 : Int32} {s0 : Int32} {r : (Mem)}  (h : f_X8_readExpression_38 rc I v1 s0 = some (Sum.inl r)) (E : EndR X cX8_readExpression RX8 3 (none) d n none r P O D Q) : Here X cX8_readExpression RX8 3 (none) d n 38 [some (.inr (.inr (8, 0, 0))), some (.inl v1), none] [.inl s0] I P O D n Q := by
  unfold f_X8_readExpression_38 at h
  refine h_istore_n dX8_readExpression_38 (by decide) rfl ?_
  refine h_iload_n dX8_readExpression_39 rfl ?_
  refine h_if_ne (tgt := 51) dX8_readExpression_40 (by decide) (fun q1 => ?_) (fun q1 => ?_)
  · rw [if_neg q1] at h
    refine h_iload_n dX8_readExpression_51 rfl ?_
    refine h_bipush (6 : Int32) dX8_readExpression_52 k_bipush_6 ?_
    refine h_icmp_ne (tgt := 62) dX8_readExpression_54 (by decide) (fun q2 => ?_) (fun q2 => ?_)
    · rw [if_neg q2] at h
      exact h_mask [true, true, false] (b_X8_readExpression_62 X Q rc dr Hrc hd  h E)
    · rw [if_pos q2] at h
      refine h_aload_n dX8_readExpression_57 rfl ?_
      refine h_iconst (2 : Int32) dX8_readExpression_58 k_iconst_2 ?_
      obtain ⟨y1, hh1, h⟩ := obd_some h
      refine h_cVv [.inl (2 : Int32)] (m_X8_wrong  hh1) cw_X8_220 dX8_readExpression_59 rfl ok_8 (by omega) rfl (Or.inr rfl) rfl ?_
      exact h_mask [true, true, false] (b_X8_readExpression_62 X Q rc dr Hrc hd  h E)
  · rw [if_pos q1] at h
    refine h_aload_n dX8_readExpression_43 rfl ?_
    refine h_iconst (1 : Int32) dX8_readExpression_44 k_iconst_1 ?_
    obtain ⟨y2, hh2, h⟩ := obd_some h
    refine h_cVv [.inl (1 : Int32)] (m_X8_wrong  hh2) cw_X8_220 dX8_readExpression_45 rfl ok_8 (by omega) rfl (Or.inr rfl) rfl ?_
    refine h_goto (tgt := 62) dX8_readExpression_48 (by decide) ?_
    exact h_mask [true, true, false] (b_X8_readExpression_62 X Q rc dr Hrc hd  h E)
theorem bx_X8_readExpression_38 (X : CX) (Q : State → Prop) (rc : Mem → Int32 → Option ((Mem) ⊕ Nat)) (dr : Nat) (Hrc : ∀ {I : Mem} {P : PMem} {O : Nat → Int64} {D : Bool} {n : Nat} {v1 : Int32} {r : (Mem)}, rc I v1 = some r → MethR yX8_readExpression cX8_readExpression 3 (none) dr [.inr (.inr (8, 0, 0)), .inl v1] I P O D n none r P O D n) {d : Nat} (hd : dr + 16 ≤ d) {I : Mem} {P : PMem} {O : Nat → Int64} {D : Bool} {n : Nat} {v1 : Int32} {s0 : Int32} {r : Nat}  (h : f_X8_readExpression_38 rc I v1 s0 = some (Sum.inr r)) (E : EndX X cX8_readExpression RX8 3 (none) d (n + 1) r I P O D Q) : Here X cX8_readExpression RX8 3 (none) d (n + 1) 38 [some (.inr (.inr (8, 0, 0))), some (.inl v1), none] [.inl s0] I P O D n Q := by
  unfold f_X8_readExpression_38 at h
  refine h_istore_n dX8_readExpression_38 (by decide) rfl ?_
  refine h_iload_n dX8_readExpression_39 rfl ?_
  refine h_if_ne (tgt := 51) dX8_readExpression_40 (by decide) (fun q1 => ?_) (fun q1 => ?_)
  · rw [if_neg q1] at h
    refine h_iload_n dX8_readExpression_51 rfl ?_
    refine h_bipush (6 : Int32) dX8_readExpression_52 k_bipush_6 ?_
    refine h_icmp_ne (tgt := 62) dX8_readExpression_54 (by decide) (fun q2 => ?_) (fun q2 => ?_)
    · rw [if_neg q2] at h
      exact h_mask [true, true, false] (bx_X8_readExpression_62 X Q rc dr Hrc hd  h E)
    · rw [if_pos q2] at h
      refine h_aload_n dX8_readExpression_57 rfl ?_
      refine h_iconst (2 : Int32) dX8_readExpression_58 k_iconst_2 ?_
      obtain ⟨y1, hh1, h⟩ := obd_some h
      refine h_cVv [.inl (2 : Int32)] (m_X8_wrong  hh1) cw_X8_220 dX8_readExpression_59 rfl ok_8 (by omega) rfl (Or.inr rfl) rfl ?_
      exact h_mask [true, true, false] (bx_X8_readExpression_62 X Q rc dr Hrc hd  h E)
  · rw [if_pos q1] at h
    refine h_aload_n dX8_readExpression_43 rfl ?_
    refine h_iconst (1 : Int32) dX8_readExpression_44 k_iconst_1 ?_
    obtain ⟨y2, hh2, h⟩ := obd_some h
    refine h_cVv [.inl (1 : Int32)] (m_X8_wrong  hh2) cw_X8_220 dX8_readExpression_45 rfl ok_8 (by omega) rfl (Or.inr rfl) rfl ?_
    refine h_goto (tgt := 62) dX8_readExpression_48 (by decide) ?_
    exact h_mask [true, true, false] (bx_X8_readExpression_62 X Q rc dr Hrc hd  h E)
def f_X8_readExpression_33 (rc : Mem → Int32 → Option ((Mem) ⊕ Nat))   (I : Mem) (v1 : Int32) : Option ((Mem) ⊕ Nat) :=
  f_X8_readExpression_38 rc I v1 (1 : Int32)
theorem b_X8_readExpression_33 (X : CX) (Q : State → Prop) (rc : Mem → Int32 → Option ((Mem) ⊕ Nat)) (dr : Nat) (Hrc : ∀ {I : Mem} {P : PMem} {O : Nat → Int64} {D : Bool} {n : Nat} {v1 : Int32} {r : (Mem)}, rc I v1 = some r → MethR yX8_readExpression cX8_readExpression 3 (none) dr [.inr (.inr (8, 0, 0)), .inl v1] I P O D n none r P O D n) {d : Nat} (hd : dr + 16 ≤ d) {I : Mem} {P : PMem} {O : Nat → Int64} {D : Bool} {n : Nat} {v1 : Int32} {r : (Mem)}  (h : f_X8_readExpression_33 rc I v1 = some (Sum.inl r)) (E : EndR X cX8_readExpression RX8 3 (none) d n none r P O D Q) : Here X cX8_readExpression RX8 3 (none) d n 33 [some (.inr (.inr (8, 0, 0))), some (.inl v1), none] [] I P O D n Q := by
  unfold f_X8_readExpression_33 at h
  refine h_iconst (1 : Int32) dX8_readExpression_33 k_iconst_1 ?_
  refine h_goto (tgt := 38) dX8_readExpression_34 (by decide) ?_
  exact (b_X8_readExpression_38 X Q rc dr Hrc hd  h E)
theorem bx_X8_readExpression_33 (X : CX) (Q : State → Prop) (rc : Mem → Int32 → Option ((Mem) ⊕ Nat)) (dr : Nat) (Hrc : ∀ {I : Mem} {P : PMem} {O : Nat → Int64} {D : Bool} {n : Nat} {v1 : Int32} {r : (Mem)}, rc I v1 = some r → MethR yX8_readExpression cX8_readExpression 3 (none) dr [.inr (.inr (8, 0, 0)), .inl v1] I P O D n none r P O D n) {d : Nat} (hd : dr + 16 ≤ d) {I : Mem} {P : PMem} {O : Nat → Int64} {D : Bool} {n : Nat} {v1 : Int32} {r : Nat}  (h : f_X8_readExpression_33 rc I v1 = some (Sum.inr r)) (E : EndX X cX8_readExpression RX8 3 (none) d (n + 1) r I P O D Q) : Here X cX8_readExpression RX8 3 (none) d (n + 1) 33 [some (.inr (.inr (8, 0, 0))), some (.inl v1), none] [] I P O D n Q := by
  unfold f_X8_readExpression_33 at h
  refine h_iconst (1 : Int32) dX8_readExpression_33 k_iconst_1 ?_
  refine h_goto (tgt := 38) dX8_readExpression_34 (by decide) ?_
  exact (bx_X8_readExpression_38 X Q rc dr Hrc hd  h E)
def f_X8_readExpression (rc : Mem → Int32 → Option ((Mem) ⊕ Nat))   (I : Mem) (v1 : Int32) : Option ((Mem) ⊕ Nat) :=
  if (I 8 0 0 21) = 0 then (if (I 8 0 0 17) = (2 : Int32) then (f_X8_readExpression_33 rc I v1) else (if (I 8 0 0 17) = (1 : Int32) then (f_X8_readExpression_33 rc I v1) else ((f_X8_isMarked I (40 : Int32)).bind fun y1 =>
  if y1 = 0 then (f_X8_readExpression_38 rc I v1 (0 : Int32)) else (f_X8_readExpression_33 rc I v1)))) else (some (Sum.inl I))
theorem b_X8_readExpression (X : CX) (Q : State → Prop) (rc : Mem → Int32 → Option ((Mem) ⊕ Nat)) (dr : Nat) (Hrc : ∀ {I : Mem} {P : PMem} {O : Nat → Int64} {D : Bool} {n : Nat} {v1 : Int32} {r : (Mem)}, rc I v1 = some r → MethR yX8_readExpression cX8_readExpression 3 (none) dr [.inr (.inr (8, 0, 0)), .inl v1] I P O D n none r P O D n) {d : Nat} (hd : dr + 16 ≤ d) {I : Mem} {P : PMem} {O : Nat → Int64} {D : Bool} {n : Nat} {v1 : Int32} {r : (Mem)}  (h : f_X8_readExpression rc I v1 = some (Sum.inl r)) (E : EndR X cX8_readExpression RX8 3 (none) d n none r P O D Q) : Here X cX8_readExpression RX8 3 (none) d n 0 [some (.inr (.inr (8, 0, 0))), some (.inl v1), none] [] I P O D n Q := by
  unfold f_X8_readExpression at h
  refine h_aload_n dX8_readExpression_0 rfl ?_
  refine g_X8_199  dX8_readExpression_1 ?_
  refine h_if_eq (tgt := 8) dX8_readExpression_4 (by decide) (fun q1 => ?_) (fun q1 => ?_)
  · rw [if_pos q1] at h
    refine h_aload_n dX8_readExpression_8 rfl ?_
    refine g_X8_173  dX8_readExpression_9 ?_
    refine h_iconst (2 : Int32) dX8_readExpression_12 k_iconst_2 ?_
    refine h_icmp_eq (tgt := 33) dX8_readExpression_13 (by decide) (fun q2 => ?_) (fun q2 => ?_)
    · rw [if_pos q2] at h
      exact (b_X8_readExpression_33 X Q rc dr Hrc hd  h E)
    · rw [if_neg q2] at h
      refine h_aload_n dX8_readExpression_16 rfl ?_
      refine g_X8_173  dX8_readExpression_17 ?_
      refine h_iconst (1 : Int32) dX8_readExpression_20 k_iconst_1 ?_
      refine h_icmp_eq (tgt := 33) dX8_readExpression_21 (by decide) (fun q3 => ?_) (fun q3 => ?_)
      · rw [if_pos q3] at h
        exact (b_X8_readExpression_33 X Q rc dr Hrc hd  h E)
      · rw [if_neg q3] at h
        refine h_aload_n dX8_readExpression_24 rfl ?_
        refine h_bipush (40 : Int32) dX8_readExpression_25 k_bipush_40 ?_
        obtain ⟨y1, hh1, h⟩ := obd_some h
        refine h_cVi [.inl (40 : Int32)] (m_X8_isMarked  hh1) cw_X8_217 dX8_readExpression_27 rfl ok_8 (by omega) rfl (Or.inr rfl) rfl ?_
        refine h_if_eq (tgt := 37) dX8_readExpression_30 (by decide) (fun q4 => ?_) (fun q4 => ?_)
        · rw [if_pos q4] at h
          refine h_iconst (0 : Int32) dX8_readExpression_37 k_iconst_0 ?_
          exact (b_X8_readExpression_38 X Q rc dr Hrc hd  h E)
        · rw [if_neg q4] at h
          exact (b_X8_readExpression_33 X Q rc dr Hrc hd  h E)
  · rw [if_neg q1] at h
    cases h
    exact h_vret dX8_readExpression_7 rfl E
theorem bx_X8_readExpression (X : CX) (Q : State → Prop) (rc : Mem → Int32 → Option ((Mem) ⊕ Nat)) (dr : Nat) (Hrc : ∀ {I : Mem} {P : PMem} {O : Nat → Int64} {D : Bool} {n : Nat} {v1 : Int32} {r : (Mem)}, rc I v1 = some r → MethR yX8_readExpression cX8_readExpression 3 (none) dr [.inr (.inr (8, 0, 0)), .inl v1] I P O D n none r P O D n) {d : Nat} (hd : dr + 16 ≤ d) {I : Mem} {P : PMem} {O : Nat → Int64} {D : Bool} {n : Nat} {v1 : Int32} {r : Nat}  (h : f_X8_readExpression rc I v1 = some (Sum.inr r)) (E : EndX X cX8_readExpression RX8 3 (none) d (n + 1) r I P O D Q) : Here X cX8_readExpression RX8 3 (none) d (n + 1) 0 [some (.inr (.inr (8, 0, 0))), some (.inl v1), none] [] I P O D n Q := by
  unfold f_X8_readExpression at h
  refine h_aload_n dX8_readExpression_0 rfl ?_
  refine g_X8_199  dX8_readExpression_1 ?_
  refine h_if_eq (tgt := 8) dX8_readExpression_4 (by decide) (fun q1 => ?_) (fun q1 => ?_)
  · rw [if_pos q1] at h
    refine h_aload_n dX8_readExpression_8 rfl ?_
    refine g_X8_173  dX8_readExpression_9 ?_
    refine h_iconst (2 : Int32) dX8_readExpression_12 k_iconst_2 ?_
    refine h_icmp_eq (tgt := 33) dX8_readExpression_13 (by decide) (fun q2 => ?_) (fun q2 => ?_)
    · rw [if_pos q2] at h
      exact (bx_X8_readExpression_33 X Q rc dr Hrc hd  h E)
    · rw [if_neg q2] at h
      refine h_aload_n dX8_readExpression_16 rfl ?_
      refine g_X8_173  dX8_readExpression_17 ?_
      refine h_iconst (1 : Int32) dX8_readExpression_20 k_iconst_1 ?_
      refine h_icmp_eq (tgt := 33) dX8_readExpression_21 (by decide) (fun q3 => ?_) (fun q3 => ?_)
      · rw [if_pos q3] at h
        exact (bx_X8_readExpression_33 X Q rc dr Hrc hd  h E)
      · rw [if_neg q3] at h
        refine h_aload_n dX8_readExpression_24 rfl ?_
        refine h_bipush (40 : Int32) dX8_readExpression_25 k_bipush_40 ?_
        obtain ⟨y1, hh1, h⟩ := obd_some h
        refine h_cVi [.inl (40 : Int32)] (m_X8_isMarked  hh1) cw_X8_217 dX8_readExpression_27 rfl ok_8 (by omega) rfl (Or.inr rfl) rfl ?_
        refine h_if_eq (tgt := 37) dX8_readExpression_30 (by decide) (fun q4 => ?_) (fun q4 => ?_)
        · rw [if_pos q4] at h
          refine h_iconst (0 : Int32) dX8_readExpression_37 k_iconst_0 ?_
          exact (bx_X8_readExpression_38 X Q rc dr Hrc hd  h E)
        · rw [if_neg q4] at h
          exact (bx_X8_readExpression_33 X Q rc dr Hrc hd  h E)
  · rw [if_neg q1] at h
    cases h
theorem m_X8_readExpression (rc : Mem → Int32 → Option ((Mem) ⊕ Nat)) (dr : Nat) (Hrc : ∀ {I : Mem} {P : PMem} {O : Nat → Int64} {D : Bool} {n : Nat} {v1 : Int32} {r : (Mem)}, rc I v1 = some r → MethR yX8_readExpression cX8_readExpression 3 (none) dr [.inr (.inr (8, 0, 0)), .inl v1] I P O D n none r P O D n) {d : Nat} (hd : dr + 16 ≤ d) {I : Mem} {P : PMem} {O : Nat → Int64} {D : Bool} {n : Nat} {v1 : Int32} {r : (Mem)}  (h : f_X8_readExpression rc I v1 = some (Sum.inl r)) : MethR yX8_readExpression cX8_readExpression 3 (none) d [.inr (.inr (8, 0, 0)), .inl v1] I P O D n none r P O D n := meth_R (Nat.le_refl _) (by decide) rfl (Nat.le_of_ble_eq_true rfl) rfl (fun X Q E => b_X8_readExpression X Q rc dr Hrc hd  h E)
theorem mx_X8_readExpression {I : Mem} {P : PMem} {O : Nat → Int64} {D : Bool} {n : Nat} {v1 : Int32} {r : Nat}  (h : f_X8_readExpression rc I v1 = some (Sum.inr r)) : MethX yX8_readExpression cX8_readExpression 3 (none) d [.inr (.inr (8, 0, 0)), .inl v1] I P O D n r I P O D (n + 1) := meth_X (Nat.le_succ _) (by decide) rfl (Nat.le_of_ble_eq_true rfl) rfl (fun X Q E => bx_X8_readExpression X Q  h E)
def F_X8_readExpression : Nat → Mem → Int32 → Option ((Mem) ⊕ Nat)
  | 0, _, _ => none
  | k + 1, I, v1 => f_X8_readExpression (F_X8_readExpression k) I v1
theorem mF_X8_readExpression : ∀ (k : Nat) {I : Mem} {P : PMem} {O : Nat → Int64} {D : Bool} {n : Nat} {v1 : Int32} {r : (Mem)}, F_X8_readExpression k I v1 = some r → MethR yX8_readExpression cX8_readExpression 3 (none) (20 * k) [.inr (.inr (8, 0, 0)), .inl v1] I P O D n none r P O D n := by
  intro k
  induction k with
  | zero => intro I P O D n v1 r h; cases h
  | succ k ih => intro I P O D n v1 r h; exact m_X8_readExpression (F_X8_readExpression k) (20 * k) ih (by omega) h
def f_X8_readPart_56 (rc : Mem → Int32 → Option ((Mem) ⊕ Nat))   (I : Mem) (v2 : Int32) : Option ((Mem) ⊕ Nat) :=
  (f_X8_lay I ((-1 : Int32) - v2)).bind fun y1 =>
  if (y1 8 0 0 21) = 0 then ((f_X8_stepOn y1).bind fun y2 =>
  some (Sum.inl y2)) else (some (Sum.inl y1))
theorem b_X8_readPart_56 (X : CX) (Q : State → Prop) (rc : Mem → Int32 → Option ((Mem) ⊕ Nat)) (dr : Nat) (Hrc : ∀ {I : Mem} {P : PMem} {O : Nat → Int64} {D : Bool} {n : Nat} {v1 : Int32} {r : (Mem)}, rc I v1 = some r → MethR yX8_readExpression cX8_readExpression 3 (none) dr [.inr (.inr (8, 0, 0)), .inl v1] I P O D n none r P O D n) {d : Nat} (hd : dr + 11 ≤ d) {I : Mem} {P : PMem} {O : Nat → Int64} {D : Bool} {n : Nat} {v2 : Int32} {r : (Mem)}  (h : f_X8_readPart_56 rc I v2 = some (Sum.inl r)) (E : EndR X cX8_readPart RX8 3 (none) d n none r P O D Q) : Here X cX8_readPart RX8 3 (none) d n 56 [some (.inr (.inr (8, 0, 0))), none, some (.inl v2)] [] I P O D n Q := by
  unfold f_X8_readPart_56 at h
  refine h_aload_n dX8_readPart_56 rfl ?_
  refine h_iconst (-1 : Int32) dX8_readPart_57 k_iconst_m1 ?_
  refine h_iload_n dX8_readPart_58 rfl ?_
  refine h_isub dX8_readPart_59 ?_
  obtain ⟨y1, hh1, h⟩ := obd_some h
  refine h_cVv [.inl ((-1 : Int32) - v2)] (m_X8_lay  hh1) cw_X8_233 dX8_readPart_60 rfl ok_8 (by omega) rfl (Or.inr rfl) rfl ?_
  refine h_aload_n dX8_readPart_63 rfl ?_
  refine g_X8_199  dX8_readPart_64 ?_
  refine h_if_ne (tgt := 74) dX8_readPart_67 (by decide) (fun q1 => ?_) (fun q1 => ?_)
  · rw [if_neg q1] at h
    cases h
    exact h_vret dX8_readPart_74 rfl E
  · rw [if_pos q1] at h
    refine h_aload_n dX8_readPart_70 rfl ?_
    obtain ⟨y2, hh2, h⟩ := obd_some h
    refine h_cVv [] (m_X8_stepOn  hh2) cw_X8_224 dX8_readPart_71 rfl ok_8 (by omega) rfl (Or.inr rfl) rfl ?_
    cases h
    exact h_vret dX8_readPart_74 rfl E
theorem bx_X8_readPart_56 (X : CX) (Q : State → Prop) (rc : Mem → Int32 → Option ((Mem) ⊕ Nat)) (dr : Nat) (Hrc : ∀ {I : Mem} {P : PMem} {O : Nat → Int64} {D : Bool} {n : Nat} {v1 : Int32} {r : (Mem)}, rc I v1 = some r → MethR yX8_readExpression cX8_readExpression 3 (none) dr [.inr (.inr (8, 0, 0)), .inl v1] I P O D n none r P O D n) {d : Nat} (hd : dr + 11 ≤ d) {I : Mem} {P : PMem} {O : Nat → Int64} {D : Bool} {n : Nat} {v2 : Int32} {r : Nat}  (h : f_X8_readPart_56 rc I v2 = some (Sum.inr r)) (E : EndX X cX8_readPart RX8 3 (none) d (n + 1) r I P O D Q) : Here X cX8_readPart RX8 3 (none) d (n + 1) 56 [some (.inr (.inr (8, 0, 0))), none, some (.inl v2)] [] I P O D n Q := by
  unfold f_X8_readPart_56 at h
  refine h_aload_n dX8_readPart_56 rfl ?_
  refine h_iconst (-1 : Int32) dX8_readPart_57 k_iconst_m1 ?_
  refine h_iload_n dX8_readPart_58 rfl ?_
  refine h_isub dX8_readPart_59 ?_
  obtain ⟨y1, hh1, h⟩ := obd_some h
  refine h_cVv [.inl ((-1 : Int32) - v2)] (m_X8_lay  hh1) cw_X8_233 dX8_readPart_60 rfl ok_8 (by omega) rfl (Or.inr rfl) rfl ?_
  refine h_aload_n dX8_readPart_63 rfl ?_
  refine g_X8_199  dX8_readPart_64 ?_
  refine h_if_ne (tgt := 74) dX8_readPart_67 (by decide) (fun q1 => ?_) (fun q1 => ?_)
  · rw [if_neg q1] at h
    cases h
  · rw [if_pos q1] at h
    refine h_aload_n dX8_readPart_70 rfl ?_
    obtain ⟨y2, hh2, h⟩ := obd_some h
    refine h_cVv [] (m_X8_stepOn  hh2) cw_X8_224 dX8_readPart_71 rfl ok_8 (by omega) rfl (Or.inr rfl) rfl ?_
    cases h
def f_X8_readPart (rc : Mem → Int32 → Option ((Mem) ⊕ Nat))   (I : Mem) (v1 : Int32) : Option ((Mem) ⊕ Nat) :=
  if (I 8 0 0 21) = 0 then (if (I 8 0 0 17) = (2 : Int32) then ((f_X8_readNumber I (0 : Int32) (9999 : Int32)).bind fun y6 =>
  (f_X8_lay y6.2 y6.1).bind fun y7 =>
  some (Sum.inl y7)) else (if (I 8 0 0 17) = (1 : Int32) then (thb (f_X8_which I 49) fun y4 =>
  if y4 = (-1 : Int32) then ((f_X8_wrong I (3 : Int32)).bind fun y5 =>
  f_X8_readPart_56 rc y5 y4) else (f_X8_readPart_56 rc I y4)) else ((f_X8_mark I (40 : Int32)).bind fun y1 =>
  thb (rc y1 (v1 + (1 : Int32))) fun y2 =>
  (f_X8_mark y2 (41 : Int32)).bind fun y3 =>
  some (Sum.inl y3)))) else (some (Sum.inl I))
theorem b_X8_readPart (X : CX) (Q : State → Prop) (rc : Mem → Int32 → Option ((Mem) ⊕ Nat)) (dr : Nat) (Hrc : ∀ {I : Mem} {P : PMem} {O : Nat → Int64} {D : Bool} {n : Nat} {v1 : Int32} {r : (Mem)}, rc I v1 = some r → MethR yX8_readExpression cX8_readExpression 3 (none) dr [.inr (.inr (8, 0, 0)), .inl v1] I P O D n none r P O D n) {d : Nat} (hd : dr + 11 ≤ d) {I : Mem} {P : PMem} {O : Nat → Int64} {D : Bool} {n : Nat} {v1 : Int32} {r : (Mem)}  (h : f_X8_readPart rc I v1 = some (Sum.inl r)) (E : EndR X cX8_readPart RX8 3 (none) d n none r P O D Q) : Here X cX8_readPart RX8 3 (none) d n 0 [some (.inr (.inr (8, 0, 0))), some (.inl v1), none] [] I P O D n Q := by
  unfold f_X8_readPart at h
  refine h_aload_n dX8_readPart_0 rfl ?_
  refine g_X8_199  dX8_readPart_1 ?_
  refine h_if_eq (tgt := 8) dX8_readPart_4 (by decide) (fun q1 => ?_) (fun q1 => ?_)
  · rw [if_pos q1] at h
    refine h_aload_n dX8_readPart_8 rfl ?_
    refine g_X8_173  dX8_readPart_9 ?_
    refine h_iconst (2 : Int32) dX8_readPart_12 k_iconst_2 ?_
    refine h_icmp_ne (tgt := 29) dX8_readPart_13 (by decide) (fun q2 => ?_) (fun q2 => ?_)
    · rw [if_neg q2] at h
      refine h_aload_n dX8_readPart_29 rfl ?_
      refine g_X8_173  dX8_readPart_30 ?_
      refine h_iconst (1 : Int32) dX8_readPart_33 k_iconst_1 ?_
      refine h_icmp_ne (tgt := 75) dX8_readPart_34 (by decide) (fun q3 => ?_) (fun q3 => ?_)
      · rw [if_neg q3] at h
        refine h_aload_n dX8_readPart_75 rfl ?_
        refine h_bipush (40 : Int32) dX8_readPart_76 k_bipush_40 ?_
        obtain ⟨y1, hh1, h⟩ := obd_some h
        refine h_cVv [.inl (40 : Int32)] (m_X8_mark  hh1) cw_X8_240 dX8_readPart_78 rfl ok_8 (by omega) rfl (Or.inr rfl) rfl ?_
        refine h_aload_n dX8_readPart_81 rfl ?_
        refine h_iload_n dX8_readPart_82 rfl ?_
        refine h_iconst (1 : Int32) dX8_readPart_83 k_iconst_1 ?_
        refine h_iadd dX8_readPart_84 ?_
        obtain ⟨y2, hh2, h⟩ := thb_R h
        refine h_cVv [.inl (v1 + (1 : Int32))] (Hrc  hh2) cw_X8_243 dX8_readPart_85 rfl ok_8 (by omega) rfl (Or.inr rfl) rfl ?_
        refine h_aload_n dX8_readPart_88 rfl ?_
        refine h_bipush (41 : Int32) dX8_readPart_89 k_bipush_41 ?_
        obtain ⟨y3, hh3, h⟩ := obd_some h
        refine h_cVv [.inl (41 : Int32)] (m_X8_mark  hh3) cw_X8_240 dX8_readPart_91 rfl ok_8 (by omega) rfl (Or.inr rfl) rfl ?_
        cases h
        exact h_vret dX8_readPart_94 rfl E
      · rw [if_pos q3] at h
        refine h_aload_n dX8_readPart_37 rfl ?_
        refine h_aload_n dX8_readPart_38 rfl ?_
        refine g_X8_31  dX8_readPart_39 ?_
        obtain ⟨y4, hh4, h⟩ := thb_R h
        refine h_cVi [.inr (.inr (49, 0, 0))] (m_X8_which (Or.inr rfl) hh4) cw_X8_236 dX8_readPart_42 rfl ok_8 (by omega) rfl (Or.inr rfl) rfl ?_
        refine h_istore_n dX8_readPart_45 (by decide) rfl ?_
        refine h_iload_n dX8_readPart_46 rfl ?_
        refine h_iconst (-1 : Int32) dX8_readPart_47 k_iconst_m1 ?_
        refine h_icmp_ne (tgt := 56) dX8_readPart_48 (by decide) (fun q4 => ?_) (fun q4 => ?_)
        · rw [if_neg q4] at h
          exact h_mask [true, false, true] (b_X8_readPart_56 X Q rc dr Hrc hd  h E)
        · rw [if_pos q4] at h
          refine h_aload_n dX8_readPart_51 rfl ?_
          refine h_iconst (3 : Int32) dX8_readPart_52 k_iconst_3 ?_
          obtain ⟨y5, hh5, h⟩ := obd_some h
          refine h_cVv [.inl (3 : Int32)] (m_X8_wrong  hh5) cw_X8_220 dX8_readPart_53 rfl ok_8 (by omega) rfl (Or.inr rfl) rfl ?_
          exact h_mask [true, false, true] (b_X8_readPart_56 X Q rc dr Hrc hd  h E)
    · rw [if_pos q2] at h
      refine h_aload_n dX8_readPart_16 rfl ?_
      refine h_aload_n dX8_readPart_17 rfl ?_
      refine h_iconst (0 : Int32) dX8_readPart_18 k_iconst_0 ?_
      refine h_sipush (9999 : Int32) dX8_readPart_19 k_sipush_9999 ?_
      obtain ⟨y6, hh6, h⟩ := obd_some h
      refine h_cVi [.inl (0 : Int32), .inl (9999 : Int32)] (m_X8_readNumber  hh6) cw_X8_230 dX8_readPart_22 rfl ok_8 (by omega) rfl (Or.inr rfl) rfl ?_
      obtain ⟨y7, hh7, h⟩ := obd_some h
      refine h_cVv [.inl y6.1] (m_X8_lay  hh7) cw_X8_233 dX8_readPart_25 rfl ok_8 (by omega) rfl (Or.inr rfl) rfl ?_
      cases h
      exact h_vret dX8_readPart_28 rfl E
  · rw [if_neg q1] at h
    cases h
    exact h_vret dX8_readPart_7 rfl E
theorem bx_X8_readPart (X : CX) (Q : State → Prop) (rc : Mem → Int32 → Option ((Mem) ⊕ Nat)) (dr : Nat) (Hrc : ∀ {I : Mem} {P : PMem} {O : Nat → Int64} {D : Bool} {n : Nat} {v1 : Int32} {r : (Mem)}, rc I v1 = some r → MethR yX8_readExpression cX8_readExpression 3 (none) dr [.inr (.inr (8, 0, 0)), .inl v1] I P O D n none r P O D n) {d : Nat} (hd : dr + 11 ≤ d) {I : Mem} {P : PMem} {O : Nat → Int64} {D : Bool} {n : Nat} {v1 : Int32} {r : Nat}  (h : f_X8_readPart rc I v1 = some (Sum.inr r)) (E : EndX X cX8_readPart RX8 3 (none) d (n + 1) r I P O D Q) : Here X cX8_readPart RX8 3 (none) d (n + 1) 0 [some (.inr (.inr (8, 0, 0))), some (.inl v1), none] [] I P O D n Q := by
  unfold f_X8_readPart at h
  refine h_aload_n dX8_readPart_0 rfl ?_
  refine g_X8_199  dX8_readPart_1 ?_
  refine h_if_eq (tgt := 8) dX8_readPart_4 (by decide) (fun q1 => ?_) (fun q1 => ?_)
  · rw [if_pos q1] at h
    refine h_aload_n dX8_readPart_8 rfl ?_
    refine g_X8_173  dX8_readPart_9 ?_
    refine h_iconst (2 : Int32) dX8_readPart_12 k_iconst_2 ?_
    refine h_icmp_ne (tgt := 29) dX8_readPart_13 (by decide) (fun q2 => ?_) (fun q2 => ?_)
    · rw [if_neg q2] at h
      refine h_aload_n dX8_readPart_29 rfl ?_
      refine g_X8_173  dX8_readPart_30 ?_
      refine h_iconst (1 : Int32) dX8_readPart_33 k_iconst_1 ?_
      refine h_icmp_ne (tgt := 75) dX8_readPart_34 (by decide) (fun q3 => ?_) (fun q3 => ?_)
      · rw [if_neg q3] at h
        refine h_aload_n dX8_readPart_75 rfl ?_
        refine h_bipush (40 : Int32) dX8_readPart_76 k_bipush_40 ?_
        obtain ⟨y1, hh1, h⟩ := obd_some h
        refine h_cVv [.inl (40 : Int32)] (m_X8_mark  hh1) cw_X8_240 dX8_readPart_78 rfl ok_8 (by omega) rfl (Or.inr rfl) rfl ?_
        refine h_aload_n dX8_readPart_81 rfl ?_
        refine h_iload_n dX8_readPart_82 rfl ?_
        refine h_iconst (1 : Int32) dX8_readPart_83 k_iconst_1 ?_
        refine h_iadd dX8_readPart_84 ?_
        rcases thb_X h with hh2 | ⟨y2, hh2, h⟩
        · exact h_callVX (as := [.inl (v1 + (1 : Int32))]) (mx_X8_readExpression  hh2) cw_X8_243 dX8_readPart_85 rfl ok_8 (by omega) rfl rfl E
        refine h_cVv [.inl (v1 + (1 : Int32))] (Hrc  hh2) cw_X8_243 dX8_readPart_85 rfl ok_8 (by omega) rfl (Or.inr rfl) rfl ?_
        refine h_aload_n dX8_readPart_88 rfl ?_
        refine h_bipush (41 : Int32) dX8_readPart_89 k_bipush_41 ?_
        obtain ⟨y3, hh3, h⟩ := obd_some h
        refine h_cVv [.inl (41 : Int32)] (m_X8_mark  hh3) cw_X8_240 dX8_readPart_91 rfl ok_8 (by omega) rfl (Or.inr rfl) rfl ?_
        cases h
      · rw [if_pos q3] at h
        refine h_aload_n dX8_readPart_37 rfl ?_
        refine h_aload_n dX8_readPart_38 rfl ?_
        refine g_X8_31  dX8_readPart_39 ?_
        rcases thb_X h with hh4 | ⟨y4, hh4, h⟩
        · exact h_callVX (as := [.inr (.inr (49, 0, 0))]) (mx_X8_which (Or.inr rfl) hh4) cw_X8_236 dX8_readPart_42 rfl ok_8 (by omega) rfl rfl E
        refine h_cVi [.inr (.inr (49, 0, 0))] (m_X8_which (Or.inr rfl) hh4) cw_X8_236 dX8_readPart_42 rfl ok_8 (by omega) rfl (Or.inr rfl) rfl ?_
        refine h_istore_n dX8_readPart_45 (by decide) rfl ?_
        refine h_iload_n dX8_readPart_46 rfl ?_
        refine h_iconst (-1 : Int32) dX8_readPart_47 k_iconst_m1 ?_
        refine h_icmp_ne (tgt := 56) dX8_readPart_48 (by decide) (fun q4 => ?_) (fun q4 => ?_)
        · rw [if_neg q4] at h
          exact h_mask [true, false, true] (bx_X8_readPart_56 X Q rc dr Hrc hd  h E)
        · rw [if_pos q4] at h
          refine h_aload_n dX8_readPart_51 rfl ?_
          refine h_iconst (3 : Int32) dX8_readPart_52 k_iconst_3 ?_
          obtain ⟨y5, hh5, h⟩ := obd_some h
          refine h_cVv [.inl (3 : Int32)] (m_X8_wrong  hh5) cw_X8_220 dX8_readPart_53 rfl ok_8 (by omega) rfl (Or.inr rfl) rfl ?_
          exact h_mask [true, false, true] (bx_X8_readPart_56 X Q rc dr Hrc hd  h E)
    · rw [if_pos q2] at h
      refine h_aload_n dX8_readPart_16 rfl ?_
      refine h_aload_n dX8_readPart_17 rfl ?_
      refine h_iconst (0 : Int32) dX8_readPart_18 k_iconst_0 ?_
      refine h_sipush (9999 : Int32) dX8_readPart_19 k_sipush_9999 ?_
      obtain ⟨y6, hh6, h⟩ := obd_some h
      refine h_cVi [.inl (0 : Int32), .inl (9999 : Int32)] (m_X8_readNumber  hh6) cw_X8_230 dX8_readPart_22 rfl ok_8 (by omega) rfl (Or.inr rfl) rfl ?_
      obtain ⟨y7, hh7, h⟩ := obd_some h
      refine h_cVv [.inl y6.1] (m_X8_lay  hh7) cw_X8_233 dX8_readPart_25 rfl ok_8 (by omega) rfl (Or.inr rfl) rfl ?_
      cases h
  · rw [if_neg q1] at h
    cases h
theorem m_X8_readPart (rc : Mem → Int32 → Option ((Mem) ⊕ Nat)) (dr : Nat) (Hrc : ∀ {I : Mem} {P : PMem} {O : Nat → Int64} {D : Bool} {n : Nat} {v1 : Int32} {r : (Mem)}, rc I v1 = some r → MethR yX8_readExpression cX8_readExpression 3 (none) dr [.inr (.inr (8, 0, 0)), .inl v1] I P O D n none r P O D n) {d : Nat} (hd : dr + 11 ≤ d) {I : Mem} {P : PMem} {O : Nat → Int64} {D : Bool} {n : Nat} {v1 : Int32} {r : (Mem)}  (h : f_X8_readPart rc I v1 = some (Sum.inl r)) : MethR yX8_readPart cX8_readPart 3 (none) d [.inr (.inr (8, 0, 0)), .inl v1] I P O D n none r P O D n := meth_R (Nat.le_refl _) (by decide) rfl (Nat.le_of_ble_eq_true rfl) rfl (fun X Q E => b_X8_readPart X Q rc dr Hrc hd  h E)
theorem mx_X8_readPart {I : Mem} {P : PMem} {O : Nat → Int64} {D : Bool} {n : Nat} {v1 : Int32} {r : Nat}  (h : f_X8_readPart rc I v1 = some (Sum.inr r)) : MethX yX8_readPart cX8_readPart 3 (none) d [.inr (.inr (8, 0, 0)), .inl v1] I P O D n r I P O D (n + 1) := meth_X (Nat.le_succ _) (by decide) rfl (Nat.le_of_ble_eq_true rfl) rfl (fun X Q E => bx_X8_readPart X Q  h E)
