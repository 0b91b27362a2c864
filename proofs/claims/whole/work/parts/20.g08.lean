theorem dX7_said_0 : decode cX7_said 0 = .ok (.aload_n 0, 1) := by decide +kernel
theorem dX7_said_1 : decode cX7_said 1 = .ok (.iload_n 1, 1) := by decide +kernel
theorem dX7_said_2 : decode cX7_said 2 = .ok (.invokevirtual 194, 3) := by decide +kernel
theorem dX7_said_5 : decode cX7_said 5 = .ok (.aload_n 0, 1) := by decide +kernel
theorem dX7_said_6 : decode cX7_said 6 = .ok (.iload_n 2, 1) := by decide +kernel
theorem dX7_said_7 : decode cX7_said 7 = .ok (.invokevirtual 163, 3) := by decide +kernel
theorem dX7_said_10 : decode cX7_said 10 = .ok (.iload_n 3, 1) := by decide +kernel
theorem dX7_said_11 : decode cX7_said 11 = .ok (.iconst 3, 1) := by decide +kernel
theorem dX7_said_12 : decode cX7_said 12 = .ok (.invokestatic 152, 3) := by decide +kernel
theorem dX7_said_15 : decode cX7_said 15 = .ok (.aload_n 0, 1) := by decide +kernel
theorem dX7_said_16 : decode cX7_said 16 = .ok (.invokevirtual 131, 3) := by decide +kernel
theorem dX7_said_19 : decode cX7_said 19 = .ok (.astore 4, 2) := by decide +kernel
theorem dX7_said_21 : decode cX7_said 21 = .ok (.iload_n 3, 1) := by decide +kernel
theorem dX7_said_22 : decode cX7_said 22 = .ok (.tableswitch 56 0 2 #[26, 36, 46], 26) := by decide +kernel
theorem dX7_said_48 : decode cX7_said 48 = .ok (.aload 4, 2) := by decide +kernel
theorem dX7_said_50 : decode cX7_said 50 = .ok (.getfield 200, 3) := by decide +kernel
theorem dX7_said_53 : decode cX7_said 53 = .ok (.iload_n 1, 1) := by decide +kernel
theorem dX7_said_54 : decode cX7_said 54 = .ok (.aaload, 1) := by decide +kernel
theorem dX7_said_55 : decode cX7_said 55 = .ok (.iload_n 2, 1) := by decide +kernel
theorem dX7_said_56 : decode cX7_said 56 = .ok (.iaload, 1) := by decide +kernel
theorem dX7_said_57 : decode cX7_said 57 = .ok (.ireturn, 1) := by decide +kernel
theorem dX7_said_58 : decode cX7_said 58 = .ok (.aload 4, 2) := by decide +kernel
theorem dX7_said_60 : decode cX7_said 60 = .ok (.getfield 203, 3) := by decide +kernel
theorem dX7_said_63 : decode cX7_said 63 = .ok (.iload_n 1, 1) := by decide +kernel
theorem dX7_said_64 : decode cX7_said 64 = .ok (.aaload, 1) := by decide +kernel
theorem dX7_said_65 : decode cX7_said 65 = .ok (.iload_n 2, 1) := by decide +kernel
theorem dX7_said_66 : decode cX7_said 66 = .ok (.iaload, 1) := by decide +kernel
theorem dX7_said_67 : decode cX7_said 67 = .ok (.ireturn, 1) := by decide +kernel
theorem dX7_said_68 : decode cX7_said 68 = .ok (.aload 4, 2) := by decide +kernel
theorem dX7_said_70 : decode cX7_said 70 = .ok (.getfield 206, 3) := by decide +kernel
theorem dX7_said_73 : decode cX7_said 73 = .ok (.iload_n 1, 1) := by decide +kernel
theorem dX7_said_74 : decode cX7_said 74 = .ok (.aaload, 1) := by decide +kernel
theorem dX7_said_75 : decode cX7_said 75 = .ok (.iload_n 2, 1) := by decide +kernel
theorem dX7_said_76 : decode cX7_said 76 = .ok (.iaload, 1) := by decide +kernel
theorem dX7_said_77 : decode cX7_said 77 = .ok (.ireturn, 1) := by decide +kernel
theorem dX7_said_78 : decode cX7_said 78 = .ok (.aload 4, 2) := by decide +kernel
theorem dX7_said_80 : decode cX7_said 80 = .ok (.iload_n 1, 1) := by decide +kernel
theorem dX7_said_81 : decode cX7_said 81 = .ok (.invokevirtual 209, 3) := by decide +kernel
theorem dX7_said_84 : decode cX7_said 84 = .ok (.iload_n 2, 1) := by decide +kernel
theorem dX7_said_85 : decode cX7_said 85 = .ok (.iushr, 1) := by decide +kernel
theorem dX7_said_86 : decode cX7_said 86 = .ok (.iconst 1, 1) := by decide +kernel
theorem dX7_said_87 : decode cX7_said 87 = .ok (.iand, 1) := by decide +kernel
theorem dX7_said_88 : decode cX7_said 88 = .ok (.ireturn, 1) := by decide +kernel
theorem dX7_met_0 : decode cX7_met 0 = .ok (.aload_n 0, 1) := by decide +kernel
theorem dX7_met_1 : decode cX7_met 1 = .ok (.iload_n 1, 1) := by decide +kernel
theorem dX7_met_2 : decode cX7_met 2 = .ok (.invokevirtual 163, 3) := by decide +kernel
theorem dX7_met_5 : decode cX7_met 5 = .ok (.aload_n 0, 1) := by decide +kernel
theorem dX7_met_6 : decode cX7_met 6 = .ok (.iload_n 2, 1) := by decide +kernel
theorem dX7_met_7 : decode cX7_met 7 = .ok (.invokevirtual 163, 3) := by decide +kernel
theorem dX7_met_10 : decode cX7_met 10 = .ok (.iload_n 1, 1) := by decide +kernel
theorem dX7_met_11 : decode cX7_met 11 = .ok (.iload_n 2, 1) := by decide +kernel
theorem dX7_met_12 : decode cX7_met 12 = .ok (.if_icmp .ne 13, 3) := by decide +kernel
theorem dX7_met_15 : decode cX7_met 15 = .ok (.new 65, 3) := by decide +kernel
theorem dX7_met_18 : decode cX7_met 18 = .ok (.dup, 1) := by decide +kernel
theorem dX7_met_19 : decode cX7_met 19 = .ok (.ldc 212, 2) := by decide +kernel
theorem dX7_met_21 : decode cX7_met 21 = .ok (.invokespecial 69, 3) := by decide +kernel
theorem dX7_met_24 : decode cX7_met 24 = .ok (.athrow, 1) := by decide +kernel
theorem dX7_met_25 : decode cX7_met 25 = .ok (.aload_n 0, 1) := by decide +kernel
theorem dX7_met_26 : decode cX7_met 26 = .ok (.invokevirtual 131, 3) := by decide +kernel
theorem dX7_met_29 : decode cX7_met 29 = .ok (.getfield 214, 3) := by decide +kernel
theorem dX7_met_32 : decode cX7_met 32 = .ok (.iload_n 1, 1) := by decide +kernel
theorem dX7_met_33 : decode cX7_met 33 = .ok (.aaload, 1) := by decide +kernel
theorem dX7_met_34 : decode cX7_met 34 = .ok (.iload_n 2, 1) := by decide +kernel
theorem dX7_met_35 : decode cX7_met 35 = .ok (.iaload, 1) := by decide +kernel
theorem dX7_met_36 : decode cX7_met 36 = .ok (.ireturn, 1) := by decide +kernel
theorem dX7_guilty_0 : decode cX7_guilty 0 = .ok (.aload_n 0, 1) := by decide +kernel
theorem dX7_guilty_1 : decode cX7_guilty 1 = .ok (.iload_n 1, 1) := by decide +kernel
theorem dX7_guilty_2 : decode cX7_guilty 2 = .ok (.invokevirtual 194, 3) := by decide +kernel
theorem dX7_guilty_5 : decode cX7_guilty 5 = .ok (.iload_n 2, 1) := by decide +kernel
theorem dX7_guilty_6 : decode cX7_guilty 6 = .ok (.iconst 1, 1) := by decide +kernel
theorem dX7_guilty_7 : decode cX7_guilty 7 = .ok (.invokestatic 152, 3) := by decide +kernel
theorem dX7_guilty_10 : decode cX7_guilty 10 = .ok (.aload_n 0, 1) := by decide +kernel
theorem dX7_guilty_11 : decode cX7_guilty 11 = .ok (.invokevirtual 131, 3) := by decide +kernel
theorem dX7_guilty_14 : decode cX7_guilty 14 = .ok (.astore_n 3, 1) := by decide +kernel
theorem dX7_guilty_15 : decode cX7_guilty 15 = .ok (.iload_n 2, 1) := by decide +kernel
theorem dX7_guilty_16 : decode cX7_guilty 16 = .ok (.ifCond .ne 11, 3) := by decide +kernel
theorem dX7_guilty_19 : decode cX7_guilty 19 = .ok (.aload_n 3, 1) := by decide +kernel
theorem dX7_guilty_20 : decode cX7_guilty 20 = .ok (.iload_n 1, 1) := by decide +kernel
theorem dX7_guilty_21 : decode cX7_guilty 21 = .ok (.invokevirtual 217, 3) := by decide +kernel
theorem dX7_guilty_24 : decode cX7_guilty 24 = .ok (.goto 9, 3) := by decide +kernel
theorem dX7_guilty_27 : decode cX7_guilty 27 = .ok (.aload_n 3, 1) := by decide +kernel
theorem dX7_guilty_28 : decode cX7_guilty 28 = .ok (.getfield 220, 3) := by decide +kernel
theorem dX7_guilty_31 : decode cX7_guilty 31 = .ok (.iload_n 1, 1) := by decide +kernel
theorem dX7_guilty_32 : decode cX7_guilty 32 = .ok (.iaload, 1) := by decide +kernel
theorem dX7_guilty_33 : decode cX7_guilty 33 = .ok (.ireturn, 1) := by decide +kernel
theorem dX7_news_0 : decode cX7_news 0 = .ok (.aload_n 0, 1) := by decide +kernel
theorem dX7_news_1 : decode cX7_news 1 = .ok (.iload_n 1, 1) := by decide +kernel
theorem dX7_news_2 : decode cX7_news 2 = .ok (.invokevirtual 194, 3) := by decide +kernel
theorem dX7_news_5 : decode cX7_news 5 = .ok (.aload_n 0, 1) := by decide +kernel
theorem dX7_news_6 : decode cX7_news 6 = .ok (.iload_n 2, 1) := by decide +kernel
theorem dX7_news_7 : decode cX7_news 7 = .ok (.invokevirtual 149, 3) := by decide +kernel
theorem dX7_news_10 : decode cX7_news 10 = .ok (.aload_n 0, 1) := by decide +kernel
theorem dX7_news_11 : decode cX7_news 11 = .ok (.invokevirtual 131, 3) := by decide +kernel
theorem dX7_news_14 : decode cX7_news 14 = .ok (.iload_n 1, 1) := by decide +kernel
theorem dX7_news_15 : decode cX7_news 15 = .ok (.iload_n 2, 1) := by decide +kernel
theorem dX7_news_16 : decode cX7_news 16 = .ok (.invokevirtual 223, 3) := by decide +kernel
theorem dX7_news_19 : decode cX7_news 19 = .ok (.ireturn, 1) := by decide +kernel
theorem dX7_refuseAct_0 : decode cX7_refuseAct 0 = .ok (.aload_n 0, 1) := by decide +kernel
theorem dX7_refuseAct_1 : decode cX7_refuseAct 1 = .ok (.getfield 35, 3) := by decide +kernel
theorem dX7_refuseAct_4 : decode cX7_refuseAct 4 = .ok (.getfield 82, 3) := by decide +kernel
theorem dX7_refuseAct_7 : decode cX7_refuseAct 7 = .ok (.iconst 1, 1) := by decide +kernel
theorem dX7_refuseAct_8 : decode cX7_refuseAct 8 = .ok (.dup2, 1) := by decide +kernel
theorem dX7_refuseAct_9 : decode cX7_refuseAct 9 = .ok (.iaload, 1) := by decide +kernel
theorem dX7_refuseAct_10 : decode cX7_refuseAct 10 = .ok (.iconst 1, 1) := by decide +kernel
theorem dX7_refuseAct_11 : decode cX7_refuseAct 11 = .ok (.iadd, 1) := by decide +kernel
theorem dX7_refuseAct_12 : decode cX7_refuseAct 12 = .ok (.iastore, 1) := by decide +kernel
theorem dX7_refuseAct_13 : decode cX7_refuseAct 13 = .ok (.iconst (-1), 1) := by decide +kernel
theorem dX7_refuseAct_14 : decode cX7_refuseAct 14 = .ok (.ireturn, 1) := by decide +kernel
theorem dX7_keepAct_0 : decode cX7_keepAct 0 = .ok (.aload_n 0, 1) := by decide +kernel
theorem dX7_keepAct_1 : decode cX7_keepAct 1 = .ok (.getfield 35, 3) := by decide +kernel
theorem dX7_keepAct_4 : decode cX7_keepAct 4 = .ok (.getfield 138, 3) := by decide +kernel
theorem dX7_keepAct_7 : decode cX7_keepAct 7 = .ok (.iload_n 1, 1) := by decide +kernel
theorem dX7_keepAct_8 : decode cX7_keepAct 8 = .ok (.iload_n 2, 1) := by decide +kernel
theorem dX7_keepAct_9 : decode cX7_keepAct 9 = .ok (.iload_n 3, 1) := by decide +kernel
theorem dX7_keepAct_10 : decode cX7_keepAct 10 = .ok (.invokevirtual 241, 3) := by decide +kernel
theorem dX7_keepAct_13 : decode cX7_keepAct 13 = .ok (.aload_n 0, 1) := by decide +kernel
theorem dX7_keepAct_14 : decode cX7_keepAct 14 = .ok (.iconst 0, 1) := by decide +kernel
theorem dX7_keepAct_15 : decode cX7_keepAct 15 = .ok (.putfield 94, 3) := by decide +kernel
theorem dX7_keepAct_18 : decode cX7_keepAct 18 = .ok (.return_, 1) := by decide +kernel
theorem dX7_start_0 : decode cX7_start 0 = .ok (.aload_n 0, 1) := by decide +kernel
theorem dX7_start_1 : decode cX7_start 1 = .ok (.iload_n 1, 1) := by decide +kernel
theorem dX7_start_2 : decode cX7_start 2 = .ok (.invokevirtual 163, 3) := by decide +kernel
theorem dX7_start_5 : decode cX7_start 5 = .ok (.iload_n 2, 1) := by decide +kernel
theorem dX7_start_6 : decode cX7_start 6 = .ok (.bipush 60, 2) := by decide +kernel
theorem dX7_start_8 : decode cX7_start 8 = .ok (.invokestatic 226, 3) := by decide +kernel
theorem dX7_start_11 : decode cX7_start 11 = .ok (.ifCond .eq 8, 3) := by decide +kernel
theorem dX7_start_14 : decode cX7_start 14 = .ok (.aload_n 0, 1) := by decide +kernel
theorem dX7_start_15 : decode cX7_start 15 = .ok (.invokevirtual 230, 3) := by decide +kernel
theorem dX7_start_18 : decode cX7_start 18 = .ok (.ireturn, 1) := by decide +kernel
theorem dX7_start_19 : decode cX7_start 19 = .ok (.aload_n 0, 1) := by decide +kernel
theorem dX7_start_20 : decode cX7_start 20 = .ok (.getfield 35, 3) := by decide +kernel
theorem dX7_start_23 : decode cX7_start 23 = .ok (.getfield 169, 3) := by decide +kernel
theorem dX7_start_26 : decode cX7_start 26 = .ok (.iload_n 1, 1) := by decide +kernel
theorem dX7_start_27 : decode cX7_start 27 = .ok (.iaload, 1) := by decide +kernel
theorem dX7_start_28 : decode cX7_start 28 = .ok (.istore_n 3, 1) := by decide +kernel
theorem dX7_start_29 : decode cX7_start 29 = .ok (.aload_n 0, 1) := by decide +kernel
theorem dX7_start_30 : decode cX7_start 30 = .ok (.getfield 35, 3) := by decide +kernel
theorem dX7_start_33 : decode cX7_start 33 = .ok (.getfield 169, 3) := by decide +kernel
theorem dX7_start_36 : decode cX7_start 36 = .ok (.iload_n 1, 1) := by decide +kernel
theorem dX7_start_37 : decode cX7_start 37 = .ok (.iload_n 2, 1) := by decide +kernel
theorem dX7_start_38 : decode cX7_start 38 = .ok (.iastore, 1) := by decide +kernel
theorem dX7_start_39 : decode cX7_start 39 = .ok (.aload_n 0, 1) := by decide +kernel
theorem dX7_start_40 : decode cX7_start 40 = .ok (.iconst 0, 1) := by decide +kernel
theorem dX7_start_41 : decode cX7_start 41 = .ok (.iload_n 1, 1) := by decide +kernel
theorem dX7_start_42 : decode cX7_start 42 = .ok (.iload_n 3, 1) := by decide +kernel
theorem dX7_start_43 : decode cX7_start 43 = .ok (.invokevirtual 233, 3) := by decide +kernel
theorem dX7_start_46 : decode cX7_start 46 = .ok (.iload_n 3, 1) := by decide +kernel
theorem dX7_start_47 : decode cX7_start 47 = .ok (.ireturn, 1) := by decide +kernel
theorem dX7_inn_0 : decode cX7_inn 0 = .ok (.aload_n 0, 1) := by decide +kernel
theorem dX7_inn_1 : decode cX7_inn 1 = .ok (.iload_n 1, 1) := by decide +kernel
theorem dX7_inn_2 : decode cX7_inn 2 = .ok (.invokevirtual 149, 3) := by decide +kernel
theorem dX7_inn_5 : decode cX7_inn 5 = .ok (.aload_n 0, 1) := by decide +kernel
theorem dX7_inn_6 : decode cX7_inn 6 = .ok (.getfield 35, 3) := by decide +kernel
theorem dX7_inn_9 : decode cX7_inn 9 = .ok (.getfield 113, 3) := by decide +kernel
theorem dX7_inn_12 : decode cX7_inn 12 = .ok (.iload_n 1, 1) := by decide +kernel
theorem dX7_inn_13 : decode cX7_inn 13 = .ok (.iushr, 1) := by decide +kernel
theorem dX7_inn_14 : decode cX7_inn 14 = .ok (.iconst 1, 1) := by decide +kernel
theorem dX7_inn_15 : decode cX7_inn 15 = .ok (.iand, 1) := by decide +kernel
theorem dX7_inn_16 : decode cX7_inn 16 = .ok (.iload_n 2, 1) := by decide +kernel
theorem dX7_inn_17 : decode cX7_inn 17 = .ok (.ifCond .eq 7, 3) := by decide +kernel
theorem dX7_inn_20 : decode cX7_inn 20 = .ok (.iconst 1, 1) := by decide +kernel
theorem dX7_inn_21 : decode cX7_inn 21 = .ok (.goto 4, 3) := by decide +kernel
theorem dX7_inn_24 : decode cX7_inn 24 = .ok (.iconst 0, 1) := by decide +kernel
theorem dX7_inn_25 : decode cX7_inn 25 = .ok (.if_icmp .ne 10, 3) := by decide +kernel
theorem dX7_inn_28 : decode cX7_inn 28 = .ok (.aload_n 0, 1) := by decide +kernel
theorem dX7_inn_29 : decode cX7_inn 29 = .ok (.invokevirtual 230, 3) := by decide +kernel
theorem dX7_inn_32 : decode cX7_inn 32 = .ok (.pop, 1) := by decide +kernel
theorem dX7_inn_33 : decode cX7_inn 33 = .ok (.iconst 0, 1) := by decide +kernel
theorem dX7_inn_34 : decode cX7_inn 34 = .ok (.ireturn, 1) := by decide +kernel
theorem dX7_inn_35 : decode cX7_inn 35 = .ok (.aload_n 0, 1) := by decide +kernel
theorem dX7_inn_36 : decode cX7_inn 36 = .ok (.getfield 35, 3) := by decide +kernel
theorem dX7_inn_39 : decode cX7_inn 39 = .ok (.dup, 1) := by decide +kernel
theorem dX7_inn_40 : decode cX7_inn 40 = .ok (.getfield 113, 3) := by decide +kernel
theorem dX7_inn_43 : decode cX7_inn 43 = .ok (.iconst 1, 1) := by decide +kernel
theorem dX7_inn_44 : decode cX7_inn 44 = .ok (.iload_n 1, 1) := by decide +kernel
theorem dX7_inn_45 : decode cX7_inn 45 = .ok (.ishl, 1) := by decide +kernel
theorem dX7_inn_46 : decode cX7_inn 46 = .ok (.ixor, 1) := by decide +kernel
theorem dX7_inn_47 : decode cX7_inn 47 = .ok (.putfield 113, 3) := by decide +kernel
theorem dX7_inn_50 : decode cX7_inn 50 = .ok (.aload_n 0, 1) := by decide +kernel
theorem dX7_inn_51 : decode cX7_inn 51 = .ok (.iconst 1, 1) := by decide +kernel
theorem dX7_inn_52 : decode cX7_inn 52 = .ok (.iload_n 1, 1) := by decide +kernel
theorem dX7_inn_53 : decode cX7_inn 53 = .ok (.iconst 0, 1) := by decide +kernel
theorem dX7_inn_54 : decode cX7_inn 54 = .ok (.invokevirtual 233, 3) := by decide +kernel
theorem dX7_inn_57 : decode cX7_inn 57 = .ok (.iconst 1, 1) := by decide +kernel
theorem dX7_inn_58 : decode cX7_inn 58 = .ok (.ireturn, 1) := by decide +kernel
theorem dX7_word_0 : decode cX7_word 0 = .ok (.aload_n 0, 1) := by decide +kernel
theorem dX7_word_1 : decode cX7_word 1 = .ok (.iload_n 1, 1) := by decide +kernel
theorem dX7_word_2 : decode cX7_word 2 = .ok (.invokevirtual 194, 3) := by decide +kernel
theorem dX7_word_5 : decode cX7_word 5 = .ok (.aload_n 0, 1) := by decide +kernel
theorem dX7_word_6 : decode cX7_word 6 = .ok (.iload_n 2, 1) := by decide +kernel
theorem dX7_word_7 : decode cX7_word 7 = .ok (.invokevirtual 149, 3) := by decide +kernel
theorem dX7_word_10 : decode cX7_word 10 = .ok (.aload_n 0, 1) := by decide +kernel
theorem dX7_word_11 : decode cX7_word 11 = .ok (.getfield 35, 3) := by decide +kernel
theorem dX7_word_14 : decode cX7_word 14 = .ok (.getfield 116, 3) := by decide +kernel
theorem dX7_word_17 : decode cX7_word 17 = .ok (.invokevirtual 237, 3) := by decide +kernel
theorem dX7_word_20 : decode cX7_word 20 = .ok (.ifCond .ne 12, 3) := by decide +kernel
theorem dX7_word_23 : decode cX7_word 23 = .ok (.iload_n 3, 1) := by decide +kernel
theorem dX7_word_24 : decode cX7_word 24 = .ok (.bipush 99, 2) := by decide +kernel
theorem dX7_word_26 : decode cX7_word 26 = .ok (.invokestatic 226, 3) := by decide +kernel
theorem dX7_word_29 : decode cX7_word 29 = .ok (.ifCond .eq 8, 3) := by decide +kernel
theorem dX7_word_32 : decode cX7_word 32 = .ok (.aload_n 0, 1) := by decide +kernel
theorem dX7_word_33 : decode cX7_word 33 = .ok (.invokevirtual 230, 3) := by decide +kernel
theorem dX7_word_36 : decode cX7_word 36 = .ok (.ireturn, 1) := by decide +kernel
theorem dX7_word_37 : decode cX7_word 37 = .ok (.aload_n 0, 1) := by decide +kernel
theorem dX7_word_38 : decode cX7_word 38 = .ok (.getfield 35, 3) := by decide +kernel
theorem dX7_word_41 : decode cX7_word 41 = .ok (.getfield 116, 3) := by decide +kernel
theorem dX7_word_44 : decode cX7_word 44 = .ok (.iload_n 1, 1) := by decide +kernel
theorem dX7_word_45 : decode cX7_word 45 = .ok (.iload_n 2, 1) := by decide +kernel
theorem dX7_word_46 : decode cX7_word 46 = .ok (.iload_n 3, 1) := by decide +kernel
theorem dX7_word_47 : decode cX7_word 47 = .ok (.invokevirtual 241, 3) := by decide +kernel
theorem dX7_word_50 : decode cX7_word 50 = .ok (.aload_n 0, 1) := by decide +kernel
theorem dX7_word_51 : decode cX7_word 51 = .ok (.iconst 2, 1) := by decide +kernel
theorem dX7_word_52 : decode cX7_word 52 = .ok (.iload_n 2, 1) := by decide +kernel
theorem dX7_word_53 : decode cX7_word 53 = .ok (.iconst 0, 1) := by decide +kernel
theorem dX7_word_54 : decode cX7_word 54 = .ok (.invokevirtual 233, 3) := by decide +kernel
theorem dX7_word_57 : decode cX7_word 57 = .ok (.aload_n 0, 1) := by decide +kernel
theorem dX7_word_58 : decode cX7_word 58 = .ok (.getfield 35, 3) := by decide +kernel
theorem dX7_word_61 : decode cX7_word 61 = .ok (.getfield 116, 3) := by decide +kernel
theorem dX7_word_64 : decode cX7_word 64 = .ok (.getfield 120, 3) := by decide +kernel
theorem dX7_word_67 : decode cX7_word 67 = .ok (.ireturn, 1) := by decide +kernel
theorem dX7_feast_0 : decode cX7_feast 0 = .ok (.aload_n 0, 1) := by decide +kernel
theorem dX7_feast_1 : decode cX7_feast 1 = .ok (.iload_n 1, 1) := by decide +kernel
theorem dX7_feast_2 : decode cX7_feast 2 = .ok (.invokevirtual 149, 3) := by decide +kernel
theorem dX7_feast_5 : decode cX7_feast 5 = .ok (.aload_n 0, 1) := by decide +kernel
theorem dX7_feast_6 : decode cX7_feast 6 = .ok (.getfield 35, 3) := by decide +kernel
theorem dX7_feast_9 : decode cX7_feast 9 = .ok (.getfield 125, 3) := by decide +kernel
theorem dX7_feast_12 : decode cX7_feast 12 = .ok (.invokevirtual 237, 3) := by decide +kernel
theorem dX7_feast_15 : decode cX7_feast 15 = .ok (.ifCond .ne 26, 3) := by decide +kernel
theorem dX7_feast_18 : decode cX7_feast 18 = .ok (.iload_n 2, 1) := by decide +kernel
theorem dX7_feast_19 : decode cX7_feast 19 = .ok (.bipush 99, 2) := by decide +kernel
theorem dX7_feast_21 : decode cX7_feast 21 = .ok (.invokestatic 226, 3) := by decide +kernel
theorem dX7_feast_24 : decode cX7_feast 24 = .ok (.ifCond .ne 17, 3) := by decide +kernel
theorem dX7_feast_27 : decode cX7_feast 27 = .ok (.iload_n 3, 1) := by decide +kernel
theorem dX7_feast_28 : decode cX7_feast 28 = .ok (.bipush 99, 2) := by decide +kernel
theorem dX7_feast_30 : decode cX7_feast 30 = .ok (.invokestatic 226, 3) := by decide +kernel
theorem dX7_feast_33 : decode cX7_feast 33 = .ok (.ifCond .ne 8, 3) := by decide +kernel
theorem dX7_feast_36 : decode cX7_feast 36 = .ok (.iload_n 3, 1) := by decide +kernel
theorem dX7_feast_37 : decode cX7_feast 37 = .ok (.iload_n 2, 1) := by decide +kernel
theorem dX7_feast_38 : decode cX7_feast 38 = .ok (.if_icmp .ge 8, 3) := by decide +kernel
theorem dX7_feast_41 : decode cX7_feast 41 = .ok (.aload_n 0, 1) := by decide +kernel
theorem dX7_feast_42 : decode cX7_feast 42 = .ok (.invokevirtual 230, 3) := by decide +kernel
theorem dX7_feast_45 : decode cX7_feast 45 = .ok (.ireturn, 1) := by decide +kernel
theorem dX7_feast_46 : decode cX7_feast 46 = .ok (.aload_n 0, 1) := by decide +kernel
theorem dX7_feast_47 : decode cX7_feast 47 = .ok (.getfield 35, 3) := by decide +kernel
theorem dX7_feast_50 : decode cX7_feast 50 = .ok (.getfield 125, 3) := by decide +kernel
theorem dX7_feast_53 : decode cX7_feast 53 = .ok (.iload_n 1, 1) := by decide +kernel
theorem dX7_feast_54 : decode cX7_feast 54 = .ok (.iload_n 2, 1) := by decide +kernel
theorem dX7_feast_55 : decode cX7_feast 55 = .ok (.iload_n 3, 1) := by decide +kernel
theorem dX7_feast_56 : decode cX7_feast 56 = .ok (.invokevirtual 241, 3) := by decide +kernel
theorem dX7_feast_59 : decode cX7_feast 59 = .ok (.aload_n 0, 1) := by decide +kernel
theorem dX7_feast_60 : decode cX7_feast 60 = .ok (.iconst 3, 1) := by decide +kernel
theorem dX7_feast_61 : decode cX7_feast 61 = .ok (.iload_n 1, 1) := by decide +kernel
theorem dX7_feast_62 : decode cX7_feast 62 = .ok (.iconst 0, 1) := by decide +kernel
theorem dX7_feast_63 : decode cX7_feast 63 = .ok (.invokevirtual 233, 3) := by decide +kernel
theorem dX7_feast_66 : decode cX7_feast 66 = .ok (.aload_n 0, 1) := by decide +kernel
theorem dX7_feast_67 : decode cX7_feast 67 = .ok (.getfield 35, 3) := by decide +kernel
theorem dX7_feast_70 : decode cX7_feast 70 = .ok (.getfield 125, 3) := by decide +kernel
theorem dX7_feast_73 : decode cX7_feast 73 = .ok (.getfield 120, 3) := by decide +kernel
theorem dX7_feast_76 : decode cX7_feast 76 = .ok (.ireturn, 1) := by decide +kernel
theorem dX7_flood_0 : decode cX7_flood 0 = .ok (.aload_n 0, 1) := by decide +kernel
theorem dX7_flood_1 : decode cX7_flood 1 = .ok (.iload_n 1, 1) := by decide +kernel
theorem dX7_flood_2 : decode cX7_flood 2 = .ok (.invokevirtual 149, 3) := by decide +kernel
theorem dX7_flood_5 : decode cX7_flood 5 = .ok (.aload_n 0, 1) := by decide +kernel
theorem dX7_flood_6 : decode cX7_flood 6 = .ok (.getfield 35, 3) := by decide +kernel
theorem dX7_flood_9 : decode cX7_flood 9 = .ok (.getfield 128, 3) := by decide +kernel
theorem dX7_flood_12 : decode cX7_flood 12 = .ok (.invokevirtual 237, 3) := by decide +kernel
theorem dX7_flood_15 : decode cX7_flood 15 = .ok (.ifCond .ne 21, 3) := by decide +kernel
theorem dX7_flood_18 : decode cX7_flood 18 = .ok (.iload_n 2, 1) := by decide +kernel
theorem dX7_flood_19 : decode cX7_flood 19 = .ok (.bipush 99, 2) := by decide +kernel
theorem dX7_flood_21 : decode cX7_flood 21 = .ok (.invokestatic 226, 3) := by decide +kernel
theorem dX7_flood_24 : decode cX7_flood 24 = .ok (.ifCond .ne 12, 3) := by decide +kernel
theorem dX7_flood_27 : decode cX7_flood 27 = .ok (.iload_n 3, 1) := by decide +kernel
theorem dX7_flood_28 : decode cX7_flood 28 = .ok (.bipush 20, 2) := by decide +kernel
theorem dX7_flood_30 : decode cX7_flood 30 = .ok (.invokestatic 226, 3) := by decide +kernel
theorem dX7_flood_33 : decode cX7_flood 33 = .ok (.ifCond .eq 8, 3) := by decide +kernel
theorem dX7_flood_36 : decode cX7_flood 36 = .ok (.aload_n 0, 1) := by decide +kernel
theorem dX7_flood_37 : decode cX7_flood 37 = .ok (.invokevirtual 230, 3) := by decide +kernel
theorem dX7_flood_40 : decode cX7_flood 40 = .ok (.ireturn, 1) := by decide +kernel
theorem dX7_flood_41 : decode cX7_flood 41 = .ok (.aload_n 0, 1) := by decide +kernel
theorem dX7_flood_42 : decode cX7_flood 42 = .ok (.getfield 35, 3) := by decide +kernel
theorem dX7_flood_45 : decode cX7_flood 45 = .ok (.getfield 128, 3) := by decide +kernel
theorem dX7_flood_48 : decode cX7_flood 48 = .ok (.iload_n 1, 1) := by decide +kernel
theorem dX7_flood_49 : decode cX7_flood 49 = .ok (.iload_n 2, 1) := by decide +kernel
theorem dX7_flood_50 : decode cX7_flood 50 = .ok (.iload_n 3, 1) := by decide +kernel
theorem dX7_flood_51 : decode cX7_flood 51 = .ok (.invokevirtual 241, 3) := by decide +kernel
theorem dX7_flood_54 : decode cX7_flood 54 = .ok (.aload_n 0, 1) := by decide +kernel
theorem dX7_flood_55 : decode cX7_flood 55 = .ok (.iconst 4, 1) := by decide +kernel
theorem dX7_flood_56 : decode cX7_flood 56 = .ok (.iload_n 1, 1) := by decide +kernel
theorem dX7_flood_57 : decode cX7_flood 57 = .ok (.iconst 0, 1) := by decide +kernel
theorem dX7_flood_58 : decode cX7_flood 58 = .ok (.invokevirtual 233, 3) := by decide +kernel
theorem dX7_flood_61 : decode cX7_flood 61 = .ok (.aload_n 0, 1) := by decide +kernel
theorem dX7_flood_62 : decode cX7_flood 62 = .ok (.getfield 35, 3) := by decide +kernel
theorem dX7_flood_65 : decode cX7_flood 65 = .ok (.getfield 128, 3) := by decide +kernel
theorem dX7_flood_68 : decode cX7_flood 68 = .ok (.getfield 120, 3) := by decide +kernel
theorem dX7_flood_71 : decode cX7_flood 71 = .ok (.ireturn, 1) := by decide +kernel
theorem dX7_undo_0 : decode cX7_undo 0 = .ok (.aload_n 0, 1) := by decide +kernel
theorem dX7_undo_1 : decode cX7_undo 1 = .ok (.getfield 35, 3) := by decide +kernel
theorem dX7_undo_4 : decode cX7_undo 4 = .ok (.getfield 138, 3) := by decide +kernel
theorem dX7_undo_7 : decode cX7_undo 7 = .ok (.getfield 120, 3) := by decide +kernel
theorem dX7_undo_10 : decode cX7_undo 10 = .ok (.ifCond .ne 5, 3) := by decide +kernel
theorem dX7_undo_13 : decode cX7_undo 13 = .ok (.iconst (-1), 1) := by decide +kernel
theorem dX7_undo_14 : decode cX7_undo 14 = .ok (.ireturn, 1) := by decide +kernel
theorem dX7_undo_15 : decode cX7_undo 15 = .ok (.aload_n 0, 1) := by decide +kernel
theorem dX7_undo_16 : decode cX7_undo 16 = .ok (.getfield 35, 3) := by decide +kernel
theorem dX7_undo_19 : decode cX7_undo 19 = .ok (.invokevirtual 244, 3) := by decide +kernel
theorem dX7_undo_22 : decode cX7_undo 22 = .ok (.aload_n 0, 1) := by decide +kernel
theorem dX7_undo_23 : decode cX7_undo 23 = .ok (.iconst 0, 1) := by decide +kernel
theorem dX7_undo_24 : decode cX7_undo 24 = .ok (.putfield 94, 3) := by decide +kernel
theorem dX7_undo_27 : decode cX7_undo 27 = .ok (.aload_n 0, 1) := by decide +kernel
theorem dX7_undo_28 : decode cX7_undo 28 = .ok (.getfield 35, 3) := by decide +kernel
theorem dX7_undo_31 : decode cX7_undo 31 = .ok (.getfield 138, 3) := by decide +kernel
theorem dX7_undo_34 : decode cX7_undo 34 = .ok (.getfield 120, 3) := by decide +kernel
theorem dX7_undo_37 : decode cX7_undo 37 = .ok (.ireturn, 1) := by decide +kernel
def f_X7_said   (I : Mem) (P : PMem) (v1 : Int32) (v2 : Int32) (v3 : Int32) : Option ((Int32 × Mem × PMem) ⊕ Nat) :=
  thb (f_X7_requireCase I P v1) fun y1 =>
  thb (f_X7_requireJudge I P v2) fun y2 =>
  thb (f_X7_requireWhat I v3 (3 : Int32)) fun y3 =>
  (f_X7_settledCourt I P).bind fun y4 =>
  (if v3 = (0 : Int32) then (gd (inb v1 6) <|
  gd (inb v2 5) <|
  some (Sum.inl ((y4.1 20 0 v1.toNatClampNeg v2.toNatClampNeg), y4.1, y4.2))) else (if v3 = (1 : Int32) then (gd (inb v1 6) <|
  gd (inb v2 5) <|
  some (Sum.inl ((y4.1 16 0 v1.toNatClampNeg v2.toNatClampNeg), y4.1, y4.2))) else (if v3 = (2 : Int32) then (gd (inb v1 6) <|
  gd (inb v2 5) <|
  some (Sum.inl ((y4.1 18 0 v1.toNatClampNeg v2.toNatClampNeg), y4.1, y4.2))) else ((f_X1_voids y4.1 0 v1).bind fun y5 =>
  some (Sum.inl (((jushr y5 v2) &&& (1 : Int32)), y4.1, y4.2))))))
theorem b_X7_said (X : CX) (Q : State → Prop) {I : Mem} {P : PMem} {O : Nat → Int64} {D : Bool} {n : Nat} {v1 : Int32} {v2 : Int32} {v3 : Int32} {r : (Int32 × Mem × PMem)}  (h : f_X7_said I P v1 v2 v3 = some (Sum.inl r)) (E : EndR X cX7_said RX7 5 (some .int) 9 n (some (.inl r.1)) r.2.1 r.2.2 O D Q) : Here X cX7_said RX7 5 (some .int) 9 n 0 [some (.inr (.inr (7, 0, 0))), some (.inl v1), some (.inl v2), some (.inl v3), none] [] I P O D n Q := by
  unfold f_X7_said at h
  refine h_aload_n dX7_said_0 rfl ?_
  refine h_iload_n dX7_said_1 rfl ?_
  obtain ⟨y1, hh1, h⟩ := thb_R h
  refine h_cVv [.inl v1] (m_X7_requireCase  hh1) cw_X7_194 dX7_said_2 rfl ok_7 (by decide) rfl (Or.inr rfl) rfl ?_
  refine h_aload_n dX7_said_5 rfl ?_
  refine h_iload_n dX7_said_6 rfl ?_
  obtain ⟨y2, hh2, h⟩ := thb_R h
  refine h_cVv [.inl v2] (m_X7_requireJudge  hh2) cw_X7_163 dX7_said_7 rfl ok_7 (by decide) rfl (Or.inr rfl) rfl ?_
  refine h_iload_n dX7_said_10 rfl ?_
  refine h_iconst (3 : Int32) dX7_said_11 k_iconst_3 ?_
  obtain ⟨y3, hh3, h⟩ := thb_R h
  refine h_cSv [.inl v3, .inl (3 : Int32)] (m_X7_requireWhat  hh3) cs_X7_152 dX7_said_12 rfl (by decide) rfl (Or.inr rfl) rfl ?_
  refine h_aload_n dX7_said_15 rfl ?_
  obtain ⟨y4, hh4, h⟩ := obd_some h
  refine h_cVa [] (m_X7_settledCourt  hh4) cw_X7_131 dX7_said_16 rfl ok_7 (by decide) rfl (Or.inr rfl) rfl ?_
  refine h_astore dX7_said_19 (by decide) rfl ?_
  refine h_iload_n dX7_said_21 rfl ?_
  by_cases q1 : v3 = (0 : Int32)
  · rw [if_pos q1] at h
    refine h_tswIn (tgt := 48) 0 dX7_said_22 (by rw [q1]; decide) (by decide) rfl (by decide) ?_
    refine h_aload dX7_said_48 rfl ?_
    refine g_X7_200 (by decide) dX7_said_50 ?_
    refine h_iload_n dX7_said_53 rfl ?_
    obtain ⟨g1, h⟩ := gd_some h
    refine ag_19 (by decide) v1.toNatClampNeg rfl dX7_said_54 g1 ?_
    have w1 := inb_lt g1
    refine h_iload_n dX7_said_55 rfl ?_
    obtain ⟨g2, h⟩ := gd_some h
    refine al_20 (by decide) (by omega) v2.toNatClampNeg rfl dX7_said_56 g2 ?_
    cases h
    exact h_iret dX7_said_57 rfl E
  · rw [if_neg q1] at h
    by_cases q2 : v3 = (1 : Int32)
    · rw [if_pos q2] at h
      refine h_tswIn (tgt := 58) 1 dX7_said_22 (by rw [q2]; decide) (by decide) rfl (by decide) ?_
      refine h_aload dX7_said_58 rfl ?_
      refine g_X7_203 (by decide) dX7_said_60 ?_
      refine h_iload_n dX7_said_63 rfl ?_
      obtain ⟨g3, h⟩ := gd_some h
      refine ag_15 (by decide) v1.toNatClampNeg rfl dX7_said_64 g3 ?_
      have w2 := inb_lt g3
      refine h_iload_n dX7_said_65 rfl ?_
      obtain ⟨g4, h⟩ := gd_some h
      refine al_16 (by decide) (by omega) v2.toNatClampNeg rfl dX7_said_66 g4 ?_
      cases h
      exact h_iret dX7_said_67 rfl E
    · rw [if_neg q2] at h
      by_cases q3 : v3 = (2 : Int32)
      · rw [if_pos q3] at h
        refine h_tswIn (tgt := 68) 2 dX7_said_22 (by rw [q3]; decide) (by decide) rfl (by decide) ?_
        refine h_aload dX7_said_68 rfl ?_
        refine g_X7_206 (by decide) dX7_said_70 ?_
        refine h_iload_n dX7_said_73 rfl ?_
        obtain ⟨g5, h⟩ := gd_some h
        refine ag_17 (by decide) v1.toNatClampNeg rfl dX7_said_74 g5 ?_
        have w3 := inb_lt g5
        refine h_iload_n dX7_said_75 rfl ?_
        obtain ⟨g6, h⟩ := gd_some h
        refine al_18 (by decide) (by omega) v2.toNatClampNeg rfl dX7_said_76 g6 ?_
        cases h
        exact h_iret dX7_said_77 rfl E
      · rw [if_neg q3] at h
        refine h_tswOut (tgt := 78) dX7_said_22 ?_ (by decide) ?_
        · have n0 : v3.toInt ≠ 0 := fun e => q1 (Int32.toInt_inj.mp (e.trans (by decide)))
          have n1 : v3.toInt ≠ 1 := fun e => q2 (Int32.toInt_inj.mp (e.trans (by decide)))
          have n2 : v3.toInt ≠ 2 := fun e => q3 (Int32.toInt_inj.mp (e.trans (by decide)))
          omega
        · refine h_aload dX7_said_78 rfl ?_
          refine h_iload_n dX7_said_80 rfl ?_
          obtain ⟨y5, hh5, h⟩ := obd_some h
          refine h_cVi [.inl v1] (m_X1_voids (by decide) hh5) cw_X7_209 dX7_said_81 rfl (ok_1 (by decide)) (by decide) rfl (Or.inr rfl) rfl ?_
          refine h_iload_n dX7_said_84 rfl ?_
          refine h_ushr dX7_said_85 ?_
          refine h_iconst (1 : Int32) dX7_said_86 k_iconst_1 ?_
          refine h_iand dX7_said_87 ?_
          cases h
          exact h_iret dX7_said_88 rfl E
theorem bx_X7_said (X : CX) (Q : State → Prop) {I : Mem} {P : PMem} {O : Nat → Int64} {D : Bool} {n : Nat} {v1 : Int32} {v2 : Int32} {v3 : Int32} {r : Nat}  (h : f_X7_said I P v1 v2 v3 = some (Sum.inr r)) (E : EndX X cX7_said RX7 5 (some .int) 9 (n + 1) r I P O D Q) : Here X cX7_said RX7 5 (some .int) 9 (n + 1) 0 [some (.inr (.inr (7, 0, 0))), some (.inl v1), some (.inl v2), some (.inl v3), none] [] I P O D n Q := by
  unfold f_X7_said at h
  refine h_aload_n dX7_said_0 rfl ?_
  refine h_iload_n dX7_said_1 rfl ?_
  rcases thb_X h with hh1 | ⟨y1, hh1, h⟩
  · exact h_callVX (as := [.inl v1]) (mx_X7_requireCase  hh1) cw_X7_194 dX7_said_2 rfl ok_7 (by decide) rfl rfl E
  refine h_cVv [.inl v1] (m_X7_requireCase  hh1) cw_X7_194 dX7_said_2 rfl ok_7 (by decide) rfl (Or.inr rfl) rfl ?_
  refine h_aload_n dX7_said_5 rfl ?_
  refine h_iload_n dX7_said_6 rfl ?_
  rcases thb_X h with hh2 | ⟨y2, hh2, h⟩
  · exact h_callVX (as := [.inl v2]) (mx_X7_requireJudge  hh2) cw_X7_163 dX7_said_7 rfl ok_7 (by decide) rfl rfl E
  refine h_cVv [.inl v2] (m_X7_requireJudge  hh2) cw_X7_163 dX7_said_7 rfl ok_7 (by decide) rfl (Or.inr rfl) rfl ?_
  refine h_iload_n dX7_said_10 rfl ?_
  refine h_iconst (3 : Int32) dX7_said_11 k_iconst_3 ?_
  rcases thb_X h with hh3 | ⟨y3, hh3, h⟩
  · exact h_callSX (as := [.inl v3, .inl (3 : Int32)]) (mx_X7_requireWhat  hh3) cs_X7_152 dX7_said_12 rfl (by decide) rfl rfl E
  refine h_cSv [.inl v3, .inl (3 : Int32)] (m_X7_requireWhat  hh3) cs_X7_152 dX7_said_12 rfl (by decide) rfl (Or.inr rfl) rfl ?_
  refine h_aload_n dX7_said_15 rfl ?_
  obtain ⟨y4, hh4, h⟩ := obd_some h
  refine h_cVa [] (m_X7_settledCourt  hh4) cw_X7_131 dX7_said_16 rfl ok_7 (by decide) rfl (Or.inr rfl) rfl ?_
  refine h_astore dX7_said_19 (by decide) rfl ?_
  refine h_iload_n dX7_said_21 rfl ?_
  by_cases q1 : v3 = (0 : Int32)
  · rw [if_pos q1] at h
    refine h_tswIn (tgt := 48) 0 dX7_said_22 (by rw [q1]; decide) (by decide) rfl (by decide) ?_
    refine h_aload dX7_said_48 rfl ?_
    refine g_X7_200 (by decide) dX7_said_50 ?_
    refine h_iload_n dX7_said_53 rfl ?_
    obtain ⟨g1, h⟩ := gd_some h
    refine ag_19 (by decide) v1.toNatClampNeg rfl dX7_said_54 g1 ?_
    have w1 := inb_lt g1
    refine h_iload_n dX7_said_55 rfl ?_
    obtain ⟨g2, h⟩ := gd_some h
    refine al_20 (by decide) (by omega) v2.toNatClampNeg rfl dX7_said_56 g2 ?_
    cases h
  · rw [if_neg q1] at h
    by_cases q2 : v3 = (1 : Int32)
    · rw [if_pos q2] at h
      refine h_tswIn (tgt := 58) 1 dX7_said_22 (by rw [q2]; decide) (by decide) rfl (by decide) ?_
      refine h_aload dX7_said_58 rfl ?_
      refine g_X7_203 (by decide) dX7_said_60 ?_
      refine h_iload_n dX7_said_63 rfl ?_
      obtain ⟨g3, h⟩ := gd_some h
      refine ag_15 (by decide) v1.toNatClampNeg rfl dX7_said_64 g3 ?_
      have w2 := inb_lt g3
      refine h_iload_n dX7_said_65 rfl ?_
      obtain ⟨g4, h⟩ := gd_some h
      refine al_16 (by decide) (by omega) v2.toNatClampNeg rfl dX7_said_66 g4 ?_
      cases h
    · rw [if_neg q2] at h
      by_cases q3 : v3 = (2 : Int32)
      · rw [if_pos q3] at h
        refine h_tswIn (tgt := 68) 2 dX7_said_22 (by rw [q3]; decide) (by decide) rfl (by decide) ?_
        refine h_aload dX7_said_68 rfl ?_
        refine g_X7_206 (by decide) dX7_said_70 ?_
        refine h_iload_n dX7_said_73 rfl ?_
        obtain ⟨g5, h⟩ := gd_some h
        refine ag_17 (by decide) v1.toNatClampNeg rfl dX7_said_74 g5 ?_
        have w3 := inb_lt g5
        refine h_iload_n dX7_said_75 rfl ?_
        obtain ⟨g6, h⟩ := gd_some h
        refine al_18 (by decide) (by omega) v2.toNatClampNeg rfl dX7_said_76 g6 ?_
        cases h
      · rw [if_neg q3] at h
        refine h_tswOut (tgt := 78) dX7_said_22 ?_ (by decide) ?_
        · have n0 : v3.toInt ≠ 0 := fun e => q1 (Int32.toInt_inj.mp (e.trans (by decide)))
          have n1 : v3.toInt ≠ 1 := fun e => q2 (Int32.toInt_inj.mp (e.trans (by decide)))
          have n2 : v3.toInt ≠ 2 := fun e => q3 (Int32.toInt_inj.mp (e.trans (by decide)))
          omega
        · refine h_aload dX7_said_78 rfl ?_
          refine h_iload_n dX7_said_80 rfl ?_
          obtain ⟨y5, hh5, h⟩ := obd_some h
          refine h_cVi [.inl v1] (m_X1_voids (by decide) hh5) cw_X7_209 dX7_said_81 rfl (ok_1 (by decide)) (by decide) rfl (Or.inr rfl) rfl ?_
          refine h_iload_n dX7_said_84 rfl ?_
          refine h_ushr dX7_said_85 ?_
          refine h_iconst (1 : Int32) dX7_said_86 k_iconst_1 ?_
          refine h_iand dX7_said_87 ?_
          cases h
theorem m_X7_said {I : Mem} {P : PMem} {O : Nat → Int64} {D : Bool} {n : Nat} {v1 : Int32} {v2 : Int32} {v3 : Int32} {r : (Int32 × Mem × PMem)}  (h : f_X7_said I P v1 v2 v3 = some (Sum.inl r)) : MethR yX7_said cX7_said 5 (some .int) 9 [.inr (.inr (7, 0, 0)), .inl v1, .inl v2, .inl v3] I P O D n (some (.inl r.1)) r.2.1 r.2.2 O D n := meth_R (Nat.le_refl _) (by decide) rfl (Nat.le_of_ble_eq_true rfl) rfl (fun X Q E => b_X7_said X Q  h E)
theorem mx_X7_said {I : Mem} {P : PMem} {O : Nat → Int64} {D : Bool} {n : Nat} {v1 : Int32} {v2 : Int32} {v3 : Int32} {r : Nat}  (h : f_X7_said I P v1 v2 v3 = some (Sum.inr r)) : MethX yX7_said cX7_said 5 (some .int) 9 [.inr (.inr (7, 0, 0)), .inl v1, .inl v2, .inl v3] I P O D n r I P O D (n + 1) := meth_X (Nat.le_succ _) (by decide) rfl (Nat.le_of_ble_eq_true rfl) rfl (fun X Q E => bx_X7_said X Q  h E)
def f_X7_met   (I : Mem) (P : PMem) (v1 : Int32) (v2 : Int32) : Option ((Int32 × Mem × PMem) ⊕ Nat) :=
  thb (f_X7_requireJudge I P v1) fun y1 =>
  thb (f_X7_requireJudge I P v2) fun y2 =>
  if v1 = v2 then (some (Sum.inr 0)) else ((f_X7_settledCourt I P).bind fun y3 =>
  gd (inb v1 5) <|
  gd (inb v2 5) <|
  some (Sum.inl ((y3.1 23 0 v1.toNatClampNeg v2.toNatClampNeg), y3.1, y3.2)))
theorem b_X7_met (X : CX) (Q : State → Prop) {I : Mem} {P : PMem} {O : Nat → Int64} {D : Bool} {n : Nat} {v1 : Int32} {v2 : Int32} {r : (Int32 × Mem × PMem)}  (h : f_X7_met I P v1 v2 = some (Sum.inl r)) (E : EndR X cX7_met RX7 3 (some .int) 9 n (some (.inl r.1)) r.2.1 r.2.2 O D Q) : Here X cX7_met RX7 3 (some .int) 9 n 0 [some (.inr (.inr (7, 0, 0))), some (.inl v1), some (.inl v2)] [] I P O D n Q := by
  unfold f_X7_met at h
  refine h_aload_n dX7_met_0 rfl ?_
  refine h_iload_n dX7_met_1 rfl ?_
  obtain ⟨y1, hh1, h⟩ := thb_R h
  refine h_cVv [.inl v1] (m_X7_requireJudge  hh1) cw_X7_163 dX7_met_2 rfl ok_7 (by decide) rfl (Or.inr rfl) rfl ?_
  refine h_aload_n dX7_met_5 rfl ?_
  refine h_iload_n dX7_met_6 rfl ?_
  obtain ⟨y2, hh2, h⟩ := thb_R h
  refine h_cVv [.inl v2] (m_X7_requireJudge  hh2) cw_X7_163 dX7_met_7 rfl ok_7 (by decide) rfl (Or.inr rfl) rfl ?_
  refine h_iload_n dX7_met_10 rfl ?_
  refine h_iload_n dX7_met_11 rfl ?_
  refine h_icmp_ne (tgt := 25) dX7_met_12 (by decide) (fun q1 => ?_) (fun q1 => ?_)
  · rw [if_neg q1] at h
    refine h_aload_n dX7_met_25 rfl ?_
    obtain ⟨y3, hh3, h⟩ := obd_some h
    refine h_cVa [] (m_X7_settledCourt  hh3) cw_X7_131 dX7_met_26 rfl ok_7 (by decide) rfl (Or.inr rfl) rfl ?_
    refine g_X7_214 (by decide) dX7_met_29 ?_
    refine h_iload_n dX7_met_32 rfl ?_
    obtain ⟨g1, h⟩ := gd_some h
    refine ag_22 (by decide) v1.toNatClampNeg rfl dX7_met_33 g1 ?_
    have w1 := inb_lt g1
    refine h_iload_n dX7_met_34 rfl ?_
    obtain ⟨g2, h⟩ := gd_some h
    refine al_23 (by decide) (by omega) v2.toNatClampNeg rfl dX7_met_35 g2 ?_
    cases h
    exact h_iret dX7_met_36 rfl E
  · rw [if_pos q1] at h
    cases h
theorem bx_X7_met (X : CX) (Q : State → Prop) {I : Mem} {P : PMem} {O : Nat → Int64} {D : Bool} {n : Nat} {v1 : Int32} {v2 : Int32} {r : Nat}  (h : f_X7_met I P v1 v2 = some (Sum.inr r)) (E : EndX X cX7_met RX7 3 (some .int) 9 (n + 1) r I P O D Q) : Here X cX7_met RX7 3 (some .int) 9 (n + 1) 0 [some (.inr (.inr (7, 0, 0))), some (.inl v1), some (.inl v2)] [] I P O D n Q := by
  unfold f_X7_met at h
  refine h_aload_n dX7_met_0 rfl ?_
  refine h_iload_n dX7_met_1 rfl ?_
  rcases thb_X h with hh1 | ⟨y1, hh1, h⟩
  · exact h_callVX (as := [.inl v1]) (mx_X7_requireJudge  hh1) cw_X7_163 dX7_met_2 rfl ok_7 (by decide) rfl rfl E
  refine h_cVv [.inl v1] (m_X7_requireJudge  hh1) cw_X7_163 dX7_met_2 rfl ok_7 (by decide) rfl (Or.inr rfl) rfl ?_
  refine h_aload_n dX7_met_5 rfl ?_
  refine h_iload_n dX7_met_6 rfl ?_
  rcases thb_X h with hh2 | ⟨y2, hh2, h⟩
  · exact h_callVX (as := [.inl v2]) (mx_X7_requireJudge  hh2) cw_X7_163 dX7_met_7 rfl ok_7 (by decide) rfl rfl E
  refine h_cVv [.inl v2] (m_X7_requireJudge  hh2) cw_X7_163 dX7_met_7 rfl ok_7 (by decide) rfl (Or.inr rfl) rfl ?_
  refine h_iload_n dX7_met_10 rfl ?_
  refine h_iload_n dX7_met_11 rfl ?_
  refine h_icmp_ne (tgt := 25) dX7_met_12 (by decide) (fun q1 => ?_) (fun q1 => ?_)
  · rw [if_neg q1] at h
    refine h_aload_n dX7_met_25 rfl ?_
    obtain ⟨y3, hh3, h⟩ := obd_some h
    refine h_cVa [] (m_X7_settledCourt  hh3) cw_X7_131 dX7_met_26 rfl ok_7 (by decide) rfl (Or.inr rfl) rfl ?_
    refine g_X7_214 (by decide) dX7_met_29 ?_
    refine h_iload_n dX7_met_32 rfl ?_
    obtain ⟨g1, h⟩ := gd_some h
    refine ag_22 (by decide) v1.toNatClampNeg rfl dX7_met_33 g1 ?_
    have w1 := inb_lt g1
    refine h_iload_n dX7_met_34 rfl ?_
    obtain ⟨g2, h⟩ := gd_some h
    refine al_23 (by decide) (by omega) v2.toNatClampNeg rfl dX7_met_35 g2 ?_
    cases h
  · rw [if_pos q1] at h
    cases h
    exact h_throw (text := "both are one judge") (j := 9) tw_0 (by decide) (by decide) rfl dX7_met_15 dX7_met_18 dX7_met_19 dX7_met_21 dX7_met_24 E
theorem m_X7_met {I : Mem} {P : PMem} {O : Nat → Int64} {D : Bool} {n : Nat} {v1 : Int32} {v2 : Int32} {r : (Int32 × Mem × PMem)}  (h : f_X7_met I P v1 v2 = some (Sum.inl r)) : MethR yX7_met cX7_met 3 (some .int) 9 [.inr (.inr (7, 0, 0)), .inl v1, .inl v2] I P O D n (some (.inl r.1)) r.2.1 r.2.2 O D n := meth_R (Nat.le_refl _) (by decide) rfl (Nat.le_of_ble_eq_true rfl) rfl (fun X Q E => b_X7_met X Q  h E)
theorem mx_X7_met {I : Mem} {P : PMem} {O : Nat → Int64} {D : Bool} {n : Nat} {v1 : Int32} {v2 : Int32} {r : Nat}  (h : f_X7_met I P v1 v2 = some (Sum.inr r)) : MethX yX7_met cX7_met 3 (some .int) 9 [.inr (.inr (7, 0, 0)), .inl v1, .inl v2] I P O D n r I P O D (n + 1) := meth_X (Nat.le_succ _) (by decide) rfl (Nat.le_of_ble_eq_true rfl) rfl (fun X Q E => bx_X7_met X Q  h E)
def f_X7_guilty   (I : Mem) (P : PMem) (v1 : Int32) (v2 : Int32) : Option ((Int32 × Mem × PMem) ⊕ Nat) :=
  thb (f_X7_requireCase I P v1) fun y1 =>
  thb (f_X7_requireWhat I v2 (1 : Int32)) fun y2 =>
  (f_X7_settledCourt I P).bind fun y3 =>
  if v2 = 0 then ((f_X1_trioDay y3.1 y3.2 0 v1).bind fun y4 =>
  some (Sum.inl (y4, y3.1, y3.2))) else (gd (inb v1 6) <|
  some (Sum.inl ((y3.1 24 0 0 v1.toNatClampNeg), y3.1, y3.2)))
theorem b_X7_guilty (X : CX) (Q : State → Prop) {I : Mem} {P : PMem} {O : Nat → Int64} {D : Bool} {n : Nat} {v1 : Int32} {v2 : Int32} {r : (Int32 × Mem × PMem)}  (h : f_X7_guilty I P v1 v2 = some (Sum.inl r)) (E : EndR X cX7_guilty RX7 4 (some .int) 9 n (some (.inl r.1)) r.2.1 r.2.2 O D Q) : Here X cX7_guilty RX7 4 (some .int) 9 n 0 [some (.inr (.inr (7, 0, 0))), some (.inl v1), some (.inl v2), none] [] I P O D n Q := by
  unfold f_X7_guilty at h
  refine h_aload_n dX7_guilty_0 rfl ?_
  refine h_iload_n dX7_guilty_1 rfl ?_
  obtain ⟨y1, hh1, h⟩ := thb_R h
  refine h_cVv [.inl v1] (m_X7_requireCase  hh1) cw_X7_194 dX7_guilty_2 rfl ok_7 (by decide) rfl (Or.inr rfl) rfl ?_
  refine h_iload_n dX7_guilty_5 rfl ?_
  refine h_iconst (1 : Int32) dX7_guilty_6 k_iconst_1 ?_
  obtain ⟨y2, hh2, h⟩ := thb_R h
  refine h_cSv [.inl v2, .inl (1 : Int32)] (m_X7_requireWhat  hh2) cs_X7_152 dX7_guilty_7 rfl (by decide) rfl (Or.inr rfl) rfl ?_
  refine h_aload_n dX7_guilty_10 rfl ?_
  obtain ⟨y3, hh3, h⟩ := obd_some h
  refine h_cVa [] (m_X7_settledCourt  hh3) cw_X7_131 dX7_guilty_11 rfl ok_7 (by decide) rfl (Or.inr rfl) rfl ?_
  refine h_astore_n dX7_guilty_14 (by decide) rfl ?_
  refine h_iload_n dX7_guilty_15 rfl ?_
  refine h_if_ne (tgt := 27) dX7_guilty_16 (by decide) (fun q1 => ?_) (fun q1 => ?_)
  · rw [if_neg q1] at h
    refine h_aload_n dX7_guilty_27 rfl ?_
    refine g_X7_220 (by decide) dX7_guilty_28 ?_
    refine h_iload_n dX7_guilty_31 rfl ?_
    obtain ⟨g1, h⟩ := gd_some h
    refine al_24 (by decide) v1.toNatClampNeg rfl dX7_guilty_32 g1 ?_
    cases h
    exact h_iret dX7_guilty_33 rfl E
  · rw [if_pos q1] at h
    refine h_aload_n dX7_guilty_19 rfl ?_
    refine h_iload_n dX7_guilty_20 rfl ?_
    obtain ⟨y4, hh4, h⟩ := obd_some h
    refine h_cVi [.inl v1] (m_X1_trioDay (by decide) hh4) cw_X7_217 dX7_guilty_21 rfl (ok_1 (by decide)) (by decide) rfl (Or.inr rfl) rfl ?_
    refine h_goto (tgt := 33) dX7_guilty_24 (by decide) ?_
    cases h
    exact h_iret dX7_guilty_33 rfl E
theorem bx_X7_guilty (X : CX) (Q : State → Prop) {I : Mem} {P : PMem} {O : Nat → Int64} {D : Bool} {n : Nat} {v1 : Int32} {v2 : Int32} {r : Nat}  (h : f_X7_guilty I P v1 v2 = some (Sum.inr r)) (E : EndX X cX7_guilty RX7 4 (some .int) 9 (n + 1) r I P O D Q) : Here X cX7_guilty RX7 4 (some .int) 9 (n + 1) 0 [some (.inr (.inr (7, 0, 0))), some (.inl v1), some (.inl v2), none] [] I P O D n Q := by
  unfold f_X7_guilty at h
  refine h_aload_n dX7_guilty_0 rfl ?_
  refine h_iload_n dX7_guilty_1 rfl ?_
  rcases thb_X h with hh1 | ⟨y1, hh1, h⟩
  · exact h_callVX (as := [.inl v1]) (mx_X7_requireCase  hh1) cw_X7_194 dX7_guilty_2 rfl ok_7 (by decide) rfl rfl E
  refine h_cVv [.inl v1] (m_X7_requireCase  hh1) cw_X7_194 dX7_guilty_2 rfl ok_7 (by decide) rfl (Or.inr rfl) rfl ?_
  refine h_iload_n dX7_guilty_5 rfl ?_
  refine h_iconst (1 : Int32) dX7_guilty_6 k_iconst_1 ?_
  rcases thb_X h with hh2 | ⟨y2, hh2, h⟩
  · exact h_callSX (as := [.inl v2, .inl (1 : Int32)]) (mx_X7_requireWhat  hh2) cs_X7_152 dX7_guilty_7 rfl (by decide) rfl rfl E
  refine h_cSv [.inl v2, .inl (1 : Int32)] (m_X7_requireWhat  hh2) cs_X7_152 dX7_guilty_7 rfl (by decide) rfl (Or.inr rfl) rfl ?_
  refine h_aload_n dX7_guilty_10 rfl ?_
  obtain ⟨y3, hh3, h⟩ := obd_some h
  refine h_cVa [] (m_X7_settledCourt  hh3) cw_X7_131 dX7_guilty_11 rfl ok_7 (by decide) rfl (Or.inr rfl) rfl ?_
  refine h_astore_n dX7_guilty_14 (by decide) rfl ?_
  refine h_iload_n dX7_guilty_15 rfl ?_
  refine h_if_ne (tgt := 27) dX7_guilty_16 (by decide) (fun q1 => ?_) (fun q1 => ?_)
  · rw [if_neg q1] at h
    refine h_aload_n dX7_guilty_27 rfl ?_
    refine g_X7_220 (by decide) dX7_guilty_28 ?_
    refine h_iload_n dX7_guilty_31 rfl ?_
    obtain ⟨g1, h⟩ := gd_some h
    refine al_24 (by decide) v1.toNatClampNeg rfl dX7_guilty_32 g1 ?_
    cases h
  · rw [if_pos q1] at h
    refine h_aload_n dX7_guilty_19 rfl ?_
    refine h_iload_n dX7_guilty_20 rfl ?_
    obtain ⟨y4, hh4, h⟩ := obd_some h
    refine h_cVi [.inl v1] (m_X1_trioDay (by decide) hh4) cw_X7_217 dX7_guilty_21 rfl (ok_1 (by decide)) (by decide) rfl (Or.inr rfl) rfl ?_
    refine h_goto (tgt := 33) dX7_guilty_24 (by decide) ?_
    cases h
theorem m_X7_guilty {I : Mem} {P : PMem} {O : Nat → Int64} {D : Bool} {n : Nat} {v1 : Int32} {v2 : Int32} {r : (Int32 × Mem × PMem)}  (h : f_X7_guilty I P v1 v2 = some (Sum.inl r)) : MethR yX7_guilty cX7_guilty 4 (some .int) 9 [.inr (.inr (7, 0, 0)), .inl v1, .inl v2] I P O D n (some (.inl r.1)) r.2.1 r.2.2 O D n := meth_R (Nat.le_refl _) (by decide) rfl (Nat.le_of_ble_eq_true rfl) rfl (fun X Q E => b_X7_guilty X Q  h E)
theorem mx_X7_guilty {I : Mem} {P : PMem} {O : Nat → Int64} {D : Bool} {n : Nat} {v1 : Int32} {v2 : Int32} {r : Nat}  (h : f_X7_guilty I P v1 v2 = some (Sum.inr r)) : MethX yX7_guilty cX7_guilty 4 (some .int) 9 [.inr (.inr (7, 0, 0)), .inl v1, .inl v2] I P O D n r I P O D (n + 1) := meth_X (Nat.le_succ _) (by decide) rfl (Nat.le_of_ble_eq_true rfl) rfl (fun X Q E => bx_X7_guilty X Q  h E)
def f_X7_news   (I : Mem) (P : PMem) (v1 : Int32) (v2 : Int32) : Option ((Int32 × Mem × PMem) ⊕ Nat) :=
  thb (f_X7_requireCase I P v1) fun y1 =>
  thb (f_X7_requireTown I P v2) fun y2 =>
  (f_X7_settledCourt I P).bind fun y3 =>
  (f_X1_firstNews y3.1 y3.2 0 v1 v2).bind fun y4 =>
  some (Sum.inl (y4, y3.1, y3.2))
theorem b_X7_news (X : CX) (Q : State → Prop) {I : Mem} {P : PMem} {O : Nat → Int64} {D : Bool} {n : Nat} {v1 : Int32} {v2 : Int32} {r : (Int32 × Mem × PMem)}  (h : f_X7_news I P v1 v2 = some (Sum.inl r)) (E : EndR X cX7_news RX7 3 (some .int) 9 n (some (.inl r.1)) r.2.1 r.2.2 O D Q) : Here X cX7_news RX7 3 (some .int) 9 n 0 [some (.inr (.inr (7, 0, 0))), some (.inl v1), some (.inl v2)] [] I P O D n Q := by
  unfold f_X7_news at h
  refine h_aload_n dX7_news_0 rfl ?_
  refine h_iload_n dX7_news_1 rfl ?_
  obtain ⟨y1, hh1, h⟩ := thb_R h
  refine h_cVv [.inl v1] (m_X7_requireCase  hh1) cw_X7_194 dX7_news_2 rfl ok_7 (by decide) rfl (Or.inr rfl) rfl ?_
  refine h_aload_n dX7_news_5 rfl ?_
  refine h_iload_n dX7_news_6 rfl ?_
  obtain ⟨y2, hh2, h⟩ := thb_R h
  refine h_cVv [.inl v2] (m_X7_requireTown  hh2) cw_X7_149 dX7_news_7 rfl ok_7 (by decide) rfl (Or.inr rfl) rfl ?_
  refine h_aload_n dX7_news_10 rfl ?_
  obtain ⟨y3, hh3, h⟩ := obd_some h
  refine h_cVa [] (m_X7_settledCourt  hh3) cw_X7_131 dX7_news_11 rfl ok_7 (by decide) rfl (Or.inr rfl) rfl ?_
  refine h_iload_n dX7_news_14 rfl ?_
  refine h_iload_n dX7_news_15 rfl ?_
  obtain ⟨y4, hh4, h⟩ := obd_some h
  refine h_cVi [.inl v1, .inl v2] (m_X1_firstNews (by decide) hh4) cw_X7_223 dX7_news_16 rfl (ok_1 (by decide)) (by decide) rfl (Or.inr rfl) rfl ?_
  cases h
  exact h_iret dX7_news_19 rfl E
theorem bx_X7_news (X : CX) (Q : State → Prop) {I : Mem} {P : PMem} {O : Nat → Int64} {D : Bool} {n : Nat} {v1 : Int32} {v2 : Int32} {r : Nat}  (h : f_X7_news I P v1 v2 = some (Sum.inr r)) (E : EndX X cX7_news RX7 3 (some .int) 9 (n + 1) r I P O D Q) : Here X cX7_news RX7 3 (some .int) 9 (n + 1) 0 [some (.inr (.inr (7, 0, 0))), some (.inl v1), some (.inl v2)] [] I P O D n Q := by
  unfold f_X7_news at h
  refine h_aload_n dX7_news_0 rfl ?_
  refine h_iload_n dX7_news_1 rfl ?_
  rcases thb_X h with hh1 | ⟨y1, hh1, h⟩
  · exact h_callVX (as := [.inl v1]) (mx_X7_requireCase  hh1) cw_X7_194 dX7_news_2 rfl ok_7 (by decide) rfl rfl E
  refine h_cVv [.inl v1] (m_X7_requireCase  hh1) cw_X7_194 dX7_news_2 rfl ok_7 (by decide) rfl (Or.inr rfl) rfl ?_
  refine h_aload_n dX7_news_5 rfl ?_
  refine h_iload_n dX7_news_6 rfl ?_
  rcases thb_X h with hh2 | ⟨y2, hh2, h⟩
  · exact h_callVX (as := [.inl v2]) (mx_X7_requireTown  hh2) cw_X7_149 dX7_news_7 rfl ok_7 (by decide) rfl rfl E
  refine h_cVv [.inl v2] (m_X7_requireTown  hh2) cw_X7_149 dX7_news_7 rfl ok_7 (by decide) rfl (Or.inr rfl) rfl ?_
  refine h_aload_n dX7_news_10 rfl ?_
  obtain ⟨y3, hh3, h⟩ := obd_some h
  refine h_cVa [] (m_X7_settledCourt  hh3) cw_X7_131 dX7_news_11 rfl ok_7 (by decide) rfl (Or.inr rfl) rfl ?_
  refine h_iload_n dX7_news_14 rfl ?_
  refine h_iload_n dX7_news_15 rfl ?_
  obtain ⟨y4, hh4, h⟩ := obd_some h
  refine h_cVi [.inl v1, .inl v2] (m_X1_firstNews (by decide) hh4) cw_X7_223 dX7_news_16 rfl (ok_1 (by decide)) (by decide) rfl (Or.inr rfl) rfl ?_
  cases h
theorem m_X7_news {I : Mem} {P : PMem} {O : Nat → Int64} {D : Bool} {n : Nat} {v1 : Int32} {v2 : Int32} {r : (Int32 × Mem × PMem)}  (h : f_X7_news I P v1 v2 = some (Sum.inl r)) : MethR yX7_news cX7_news 3 (some .int) 9 [.inr (.inr (7, 0, 0)), .inl v1, .inl v2] I P O D n (some (.inl r.1)) r.2.1 r.2.2 O D n := meth_R (Nat.le_refl _) (by decide) rfl (Nat.le_of_ble_eq_true rfl) rfl (fun X Q E => b_X7_news X Q  h E)
theorem mx_X7_news {I : Mem} {P : PMem} {O : Nat → Int64} {D : Bool} {n : Nat} {v1 : Int32} {v2 : Int32} {r : Nat}  (h : f_X7_news I P v1 v2 = some (Sum.inr r)) : MethX yX7_news cX7_news 3 (some .int) 9 [.inr (.inr (7, 0, 0)), .inl v1, .inl v2] I P O D n r I P O D (n + 1) := meth_X (Nat.le_succ _) (by decide) rfl (Nat.le_of_ble_eq_true rfl) rfl (fun X Q E => bx_X7_news X Q  h E)
def f_X7_refuseAct   (I : Mem) : Option (Int32 × Mem) :=
  bnd (upd4 I 10 0 0 1 ((I 10 0 0 1) + (1 : Int32))) fun I1' =>
  some ((-1 : Int32), I1')
theorem b_X7_refuseAct (X : CX) (Q : State → Prop) {I : Mem} {P : PMem} {O : Nat → Int64} {D : Bool} {n : Nat} {r : (Int32 × Mem)}  (h : f_X7_refuseAct I = some r) (E : EndR X cX7_refuseAct RX7 1 (some .int) 2 n (some (.inl r.1)) r.2 P O D Q) : Here X cX7_refuseAct RX7 1 (some .int) 2 n 0 [some (.inr (.inr (7, 0, 0)))] [] I P O D n Q := by
  unfold f_X7_refuseAct at h
  refine h_aload_n dX7_refuseAct_0 rfl ?_
  refine g_X7_35  dX7_refuseAct_1 ?_
  refine g_X7_82 (by decide) dX7_refuseAct_4 ?_
  refine h_iconst (1 : Int32) dX7_refuseAct_7 k_iconst_1 ?_
  refine h_dup2 dX7_refuseAct_8 (fun _ => rfl) (fun _ => rfl) ?_
  refine al_10 (by decide) 1 cl_1 dX7_refuseAct_9 rfl ?_
  refine h_iconst (1 : Int32) dX7_refuseAct_10 k_iconst_1 ?_
  refine h_iadd dX7_refuseAct_11 ?_
  obtain ⟨I1', e1, h⟩ := bnd_some h
  refine as_10 (by decide) 1 cl_1 dX7_refuseAct_12 rfl ?_
  refine h_nmI e1 ?_
  refine h_iconst (-1 : Int32) dX7_refuseAct_13 k_iconst_m1 ?_
  cases h
  exact h_iret dX7_refuseAct_14 rfl E
theorem m_X7_refuseAct {I : Mem} {P : PMem} {O : Nat → Int64} {D : Bool} {n : Nat}  {r : (Int32 × Mem)}  (h : f_X7_refuseAct I = some r) : MethR yX7_refuseAct cX7_refuseAct 1 (some .int) 2 [.inr (.inr (7, 0, 0))] I P O D n (some (.inl r.1)) r.2 P O D n := meth_R (Nat.le_refl _) (by decide) rfl (Nat.le_of_ble_eq_true rfl) rfl (fun X Q E => b_X7_refuseAct X Q  h E)
def f_X7_keepAct   (I : Mem) (v1 : Int32) (v2 : Int32) (v3 : Int32) : Option (Mem) :=
  (f_X6_add 3 I v1 v2 v3).bind fun y1 =>
  bnd (upd4 y1 7 0 0 10 (0 : Int32)) fun I1' =>
  some I1'
theorem b_X7_keepAct (X : CX) (Q : State → Prop) {I : Mem} {P : PMem} {O : Nat → Int64} {D : Bool} {n : Nat} {v1 : Int32} {v2 : Int32} {v3 : Int32} {r : (Mem)}  (h : f_X7_keepAct I v1 v2 v3 = some r) (E : EndR X cX7_keepAct RX7 4 (none) 4 n none r P O D Q) : Here X cX7_keepAct RX7 4 (none) 4 n 0 [some (.inr (.inr (7, 0, 0))), some (.inl v1), some (.inl v2), some (.inl v3)] [] I P O D n Q := by
  unfold f_X7_keepAct at h
  refine h_aload_n dX7_keepAct_0 rfl ?_
  refine g_X7_35  dX7_keepAct_1 ?_
  refine g_X7_138 (by decide) dX7_keepAct_4 ?_
  refine h_iload_n dX7_keepAct_7 rfl ?_
  refine h_iload_n dX7_keepAct_8 rfl ?_
  refine h_iload_n dX7_keepAct_9 rfl ?_
  obtain ⟨y1, hh1, h⟩ := obd_some h
  refine h_cVv [.inl v1, .inl v2, .inl v3] (m_X6_add (by decide) hh1) cw_X7_241 dX7_keepAct_10 rfl (ok_6 (by decide)) (by decide) rfl (Or.inr rfl) rfl ?_
  refine h_aload_n dX7_keepAct_13 rfl ?_
  refine h_iconst (0 : Int32) dX7_keepAct_14 k_iconst_0 ?_
  obtain ⟨I1', e1, h⟩ := bnd_some h
  refine p_X7_94  rfl dX7_keepAct_15 ?_
  refine h_nmI e1 ?_
  cases h
  exact h_vret dX7_keepAct_18 rfl E
theorem m_X7_keepAct {I : Mem} {P : PMem} {O : Nat → Int64} {D : Bool} {n : Nat} {v1 : Int32} {v2 : Int32} {v3 : Int32} {r : (Mem)}  (h : f_X7_keepAct I v1 v2 v3 = some r) : MethR yX7_keepAct cX7_keepAct 4 (none) 4 [.inr (.inr (7, 0, 0)), .inl v1, .inl v2, .inl v3] I P O D n none r P O D n := meth_R (Nat.le_refl _) (by decide) rfl (Nat.le_of_ble_eq_true rfl) rfl (fun X Q E => b_X7_keepAct X Q  h E)
def f_X7_start  (P : PMem) (I : Mem) (v1 : Int32) (v2 : Int32) : Option ((Int32 × Mem) ⊕ Nat) :=
  thb (f_X7_requireJudge I P v1) fun y1 =>
  (f_X7_isOutside I v2 (60 : Int32)).bind fun y2 =>
  if y2 = 0 then (gd (inb v1 5) <|
  bnd (I 9 0 0 v1.toNatClampNeg) fun x1 =>
  bnd (upd4 I 9 0 0 v1.toNatClampNeg v2) fun I1' =>
  (f_X7_keepAct I1' (0 : Int32) v1 x1).bind fun y3 =>
  some (Sum.inl (x1, y3))) else ((f_X7_refuseAct I).bind fun y4 =>
  some (Sum.inl (y4.1, y4.2)))
theorem b_X7_start (X : CX) (Q : State → Prop) {I : Mem} {P : PMem} {O : Nat → Int64} {D : Bool} {n : Nat} {v1 : Int32} {v2 : Int32} {r : (Int32 × Mem)}  (h : f_X7_start P I v1 v2 = some (Sum.inl r)) (E : EndR X cX7_start RX7 4 (some .int) 9 n (some (.inl r.1)) r.2 P O D Q) : Here X cX7_start RX7 4 (some .int) 9 n 0 [some (.inr (.inr (7, 0, 0))), some (.inl v1), some (.inl v2), none] [] I P O D n Q := by
  unfold f_X7_start at h
  refine h_aload_n dX7_start_0 rfl ?_
  refine h_iload_n dX7_start_1 rfl ?_
  obtain ⟨y1, hh1, h⟩ := thb_R h
  refine h_cVv [.inl v1] (m_X7_requireJudge  hh1) cw_X7_163 dX7_start_2 rfl ok_7 (by decide) rfl (Or.inr rfl) rfl ?_
  refine h_iload_n dX7_start_5 rfl ?_
  refine h_bipush (60 : Int32) dX7_start_6 k_bipush_60 ?_
  obtain ⟨y2, hh2, h⟩ := obd_some h
  refine h_cSi [.inl v2, .inl (60 : Int32)] (m_X7_isOutside  hh2) cs_X7_226 dX7_start_8 rfl (by decide) rfl (Or.inr rfl) rfl ?_
  refine h_if_eq (tgt := 19) dX7_start_11 (by decide) (fun q1 => ?_) (fun q1 => ?_)
  · rw [if_pos q1] at h
    refine h_aload_n dX7_start_19 rfl ?_
    refine g_X7_35  dX7_start_20 ?_
    refine g_X7_169 (by decide) dX7_start_23 ?_
    refine h_iload_n dX7_start_26 rfl ?_
    obtain ⟨g1, h⟩ := gd_some h
    refine al_9 (by decide) v1.toNatClampNeg rfl dX7_start_27 g1 ?_
    obtain ⟨x1, e1, h⟩ := bnd_some h
    refine h_nmv e1 ?_
    refine h_istore_n dX7_start_28 (by decide) rfl ?_
    refine h_aload_n dX7_start_29 rfl ?_
    refine g_X7_35  dX7_start_30 ?_
    refine g_X7_169 (by decide) dX7_start_33 ?_
    refine h_iload_n dX7_start_36 rfl ?_
    refine h_iload_n dX7_start_37 rfl ?_
    obtain ⟨I1', e2, h⟩ := bnd_some h
    refine as_9 (by decide) v1.toNatClampNeg rfl dX7_start_38 g1 ?_
    refine h_nmI e2 ?_
    refine h_aload_n dX7_start_39 rfl ?_
    refine h_iconst (0 : Int32) dX7_start_40 k_iconst_0 ?_
    refine h_iload_n dX7_start_41 rfl ?_
    refine h_iload_n dX7_start_42 rfl ?_
    obtain ⟨y3, hh3, h⟩ := obd_some h
    refine h_cVv [.inl (0 : Int32), .inl v1, .inl x1] (m_X7_keepAct  hh3) cw_X7_233 dX7_start_43 rfl ok_7 (by decide) rfl (Or.inr rfl) rfl ?_
    refine h_iload_n dX7_start_46 rfl ?_
    cases h
    exact h_iret dX7_start_47 rfl E
  · rw [if_neg q1] at h
    refine h_aload_n dX7_start_14 rfl ?_
    obtain ⟨y4, hh4, h⟩ := obd_some h
    refine h_cVi [] (m_X7_refuseAct  hh4) cw_X7_230 dX7_start_15 rfl ok_7 (by decide) rfl (Or.inr rfl) rfl ?_
    cases h
    exact h_iret dX7_start_18 rfl E
theorem bx_X7_start (X : CX) (Q : State → Prop) {I : Mem} {P : PMem} {O : Nat → Int64} {D : Bool} {n : Nat} {v1 : Int32} {v2 : Int32} {r : Nat}  (h : f_X7_start P I v1 v2 = some (Sum.inr r)) (E : EndX X cX7_start RX7 4 (some .int) 9 (n + 1) r I P O D Q) : Here X cX7_start RX7 4 (some .int) 9 (n + 1) 0 [some (.inr (.inr (7, 0, 0))), some (.inl v1), some (.inl v2), none] [] I P O D n Q := by
  unfold f_X7_start at h
  refine h_aload_n dX7_start_0 rfl ?_
  refine h_iload_n dX7_start_1 rfl ?_
  rcases thb_X h with hh1 | ⟨y1, hh1, h⟩
  · exact h_callVX (as := [.inl v1]) (mx_X7_requireJudge  hh1) cw_X7_163 dX7_start_2 rfl ok_7 (by decide) rfl rfl E
  refine h_cVv [.inl v1] (m_X7_requireJudge  hh1) cw_X7_163 dX7_start_2 rfl ok_7 (by decide) rfl (Or.inr rfl) rfl ?_
  refine h_iload_n dX7_start_5 rfl ?_
  refine h_bipush (60 : Int32) dX7_start_6 k_bipush_60 ?_
  obtain ⟨y2, hh2, h⟩ := obd_some h
  refine h_cSi [.inl v2, .inl (60 : Int32)] (m_X7_isOutside  hh2) cs_X7_226 dX7_start_8 rfl (by decide) rfl (Or.inr rfl) rfl ?_
  refine h_if_eq (tgt := 19) dX7_start_11 (by decide) (fun q1 => ?_) (fun q1 => ?_)
  · rw [if_pos q1] at h
    refine h_aload_n dX7_start_19 rfl ?_
    refine g_X7_35  dX7_start_20 ?_
    refine g_X7_169 (by decide) dX7_start_23 ?_
    refine h_iload_n dX7_start_26 rfl ?_
    obtain ⟨g1, h⟩ := gd_some h
    refine al_9 (by decide) v1.toNatClampNeg rfl dX7_start_27 g1 ?_
    obtain ⟨x1, e1, h⟩ := bnd_some h
    refine h_nmv e1 ?_
    refine h_istore_n dX7_start_28 (by decide) rfl ?_
    refine h_aload_n dX7_start_29 rfl ?_
    refine g_X7_35  dX7_start_30 ?_
    refine g_X7_169 (by decide) dX7_start_33 ?_
    refine h_iload_n dX7_start_36 rfl ?_
    refine h_iload_n dX7_start_37 rfl ?_
    obtain ⟨I1', e2, h⟩ := bnd_some h
    refine as_9 (by decide) v1.toNatClampNeg rfl dX7_start_38 g1 ?_
    refine h_nmI e2 ?_
    refine h_aload_n dX7_start_39 rfl ?_
    refine h_iconst (0 : Int32) dX7_start_40 k_iconst_0 ?_
    refine h_iload_n dX7_start_41 rfl ?_
    refine h_iload_n dX7_start_42 rfl ?_
    obtain ⟨y3, hh3, h⟩ := obd_some h
    refine h_cVv [.inl (0 : Int32), .inl v1, .inl x1] (m_X7_keepAct  hh3) cw_X7_233 dX7_start_43 rfl ok_7 (by decide) rfl (Or.inr rfl) rfl ?_
    refine h_iload_n dX7_start_46 rfl ?_
    cases h
  · rw [if_neg q1] at h
    refine h_aload_n dX7_start_14 rfl ?_
    obtain ⟨y4, hh4, h⟩ := obd_some h
    refine h_cVi [] (m_X7_refuseAct  hh4) cw_X7_230 dX7_start_15 rfl ok_7 (by decide) rfl (Or.inr rfl) rfl ?_
    cases h
theorem m_X7_start {I : Mem} {P : PMem} {O : Nat → Int64} {D : Bool} {n : Nat} {v1 : Int32} {v2 : Int32} {r : (Int32 × Mem)}  (h : f_X7_start P I v1 v2 = some (Sum.inl r)) : MethR yX7_start cX7_start 4 (some .int) 9 [.inr (.inr (7, 0, 0)), .inl v1, .inl v2] I P O D n (some (.inl r.1)) r.2 P O D n := meth_R (Nat.le_refl _) (by decide) rfl (Nat.le_of_ble_eq_true rfl) rfl (fun X Q E => b_X7_start X Q  h E)
theorem mx_X7_start {I : Mem} {P : PMem} {O : Nat → Int64} {D : Bool} {n : Nat} {v1 : Int32} {v2 : Int32} {r : Nat}  (h : f_X7_start P I v1 v2 = some (Sum.inr r)) : MethX yX7_start cX7_start 4 (some .int) 9 [.inr (.inr (7, 0, 0)), .inl v1, .inl v2] I P O D n r I P O D (n + 1) := meth_X (Nat.le_succ _) (by decide) rfl (Nat.le_of_ble_eq_true rfl) rfl (fun X Q E => bx_X7_start X Q  h E)
def f_X7_inn_25  (P : PMem) (I : Mem) (v1 : Int32) (s0 : Int32) (s1 : Int32) : Option ((Int32 × Mem) ⊕ Nat) :=
  if s1 = s0 then ((f_X7_refuseAct I).bind fun y2 =>
  some (Sum.inl ((0 : Int32), y2.2))) else (bnd (upd4 I 0 0 0 1 ((I 0 0 0 1) ^^^ (jshl (1 : Int32) v1))) fun I1' =>
  (f_X7_keepAct I1' (1 : Int32) v1 (0 : Int32)).bind fun y1 =>
  some (Sum.inl ((1 : Int32), y1)))
theorem b_X7_inn_25 (X : CX) (Q : State → Prop) {I : Mem} {P : PMem} {O : Nat → Int64} {D : Bool} {n : Nat} {v1 : Int32} {s0 : Int32} {s1 : Int32} {r : (Int32 × Mem)}  (h : f_X7_inn_25 P I v1 s0 s1 = some (Sum.inl r)) (E : EndR X cX7_inn RX7 3 (some .boolean) 9 n (some (.inl r.1)) r.2 P O D Q) : Here X cX7_inn RX7 3 (some .boolean) 9 n 25 [some (.inr (.inr (7, 0, 0))), some (.inl v1), none] [.inl s0, .inl s1] I P O D n Q := by
  unfold f_X7_inn_25 at h
  refine h_icmp_ne (tgt := 35) dX7_inn_25 (by decide) (fun q1 => ?_) (fun q1 => ?_)
  · rw [if_neg q1] at h
    refine h_aload_n dX7_inn_35 rfl ?_
    refine g_X7_35  dX7_inn_36 ?_
    refine h_dup dX7_inn_39 (fun _ => rfl) ?_
    refine g_X7_113 (by decide) dX7_inn_40 ?_
    refine h_iconst (1 : Int32) dX7_inn_43 k_iconst_1 ?_
    refine h_iload_n dX7_inn_44 rfl ?_
    refine h_shl dX7_inn_45 ?_
    refine h_ixor dX7_inn_46 ?_
    obtain ⟨I1', e1, h⟩ := bnd_some h
    refine p_X7_113 (by decide) dX7_inn_47 ?_
    refine h_nmI e1 ?_
    refine h_aload_n dX7_inn_50 rfl ?_
    refine h_iconst (1 : Int32) dX7_inn_51 k_iconst_1 ?_
    refine h_iload_n dX7_inn_52 rfl ?_
    refine h_iconst (0 : Int32) dX7_inn_53 k_iconst_0 ?_
    obtain ⟨y1, hh1, h⟩ := obd_some h
    refine h_cVv [.inl (1 : Int32), .inl v1, .inl (0 : Int32)] (m_X7_keepAct  hh1) cw_X7_233 dX7_inn_54 rfl ok_7 (by decide) rfl (Or.inr rfl) rfl ?_
    refine h_iconst (1 : Int32) dX7_inn_57 k_iconst_1 ?_
    cases h
    exact h_zret dX7_inn_58 rfl rfl E
  · rw [if_pos q1] at h
    refine h_aload_n dX7_inn_28 rfl ?_
    obtain ⟨y2, hh2, h⟩ := obd_some h
    refine h_cVi [] (m_X7_refuseAct  hh2) cw_X7_230 dX7_inn_29 rfl ok_7 (by decide) rfl (Or.inr rfl) rfl ?_
    refine h_pop dX7_inn_32 (fun _ => rfl) ?_
    refine h_iconst (0 : Int32) dX7_inn_33 k_iconst_0 ?_
    cases h
    exact h_zret dX7_inn_34 rfl rfl E
theorem bx_X7_inn_25 (X : CX) (Q : State → Prop) {I : Mem} {P : PMem} {O : Nat → Int64} {I0 : Mem} {P0 : PMem} {D : Bool} {n : Nat} {v1 : Int32} {s0 : Int32} {s1 : Int32} {r : Nat}  (h : f_X7_inn_25 P I v1 s0 s1 = some (Sum.inr r)) (E : EndX X cX7_inn RX7 3 (some .boolean) 9 (n + 1) r I0 P0 O D Q) : Here X cX7_inn RX7 3 (some .boolean) 9 (n + 1) 25 [some (.inr (.inr (7, 0, 0))), some (.inl v1), none] [.inl s0, .inl s1] I P O D n Q := by
  unfold f_X7_inn_25 at h
  refine h_icmp_ne (tgt := 35) dX7_inn_25 (by decide) (fun q1 => ?_) (fun q1 => ?_)
  · rw [if_neg q1] at h
    refine h_aload_n dX7_inn_35 rfl ?_
    refine g_X7_35  dX7_inn_36 ?_
    refine h_dup dX7_inn_39 (fun _ => rfl) ?_
    refine g_X7_113 (by decide) dX7_inn_40 ?_
    refine h_iconst (1 : Int32) dX7_inn_43 k_iconst_1 ?_
    refine h_iload_n dX7_inn_44 rfl ?_
    refine h_shl dX7_inn_45 ?_
    refine h_ixor dX7_inn_46 ?_
    obtain ⟨I1', e1, h⟩ := bnd_some h
    refine p_X7_113 (by decide) dX7_inn_47 ?_
    refine h_nmI e1 ?_
    refine h_aload_n dX7_inn_50 rfl ?_
    refine h_iconst (1 : Int32) dX7_inn_51 k_iconst_1 ?_
    refine h_iload_n dX7_inn_52 rfl ?_
    refine h_iconst (0 : Int32) dX7_inn_53 k_iconst_0 ?_
    obtain ⟨y1, hh1, h⟩ := obd_some h
    refine h_cVv [.inl (1 : Int32), .inl v1, .inl (0 : Int32)] (m_X7_keepAct  hh1) cw_X7_233 dX7_inn_54 rfl ok_7 (by decide) rfl (Or.inr rfl) rfl ?_
    refine h_iconst (1 : Int32) dX7_inn_57 k_iconst_1 ?_
    cases h
  · rw [if_pos q1] at h
    refine h_aload_n dX7_inn_28 rfl ?_
    obtain ⟨y2, hh2, h⟩ := obd_some h
    refine h_cVi [] (m_X7_refuseAct  hh2) cw_X7_230 dX7_inn_29 rfl ok_7 (by decide) rfl (Or.inr rfl) rfl ?_
    refine h_pop dX7_inn_32 (fun _ => rfl) ?_
    refine h_iconst (0 : Int32) dX7_inn_33 k_iconst_0 ?_
    cases h
def f_X7_inn  (P : PMem) (I : Mem) (v1 : Int32) (v2 : Int32) : Option ((Int32 × Mem) ⊕ Nat) :=
  thb (f_X7_requireTown I P v1) fun y1 =>
  if v2 = 0 then (f_X7_inn_25 P I v1 (0 : Int32) ((jushr (I 0 0 0 1) v1) &&& (1 : Int32))) else (f_X7_inn_25 P I v1 (1 : Int32) ((jushr (I 0 0 0 1) v1) &&& (1 : Int32)))
theorem b_X7_inn (X : CX) (Q : State → Prop) {I : Mem} {P : PMem} {O : Nat → Int64} {D : Bool} {n : Nat} {v1 : Int32} {v2 : Int32} {r : (Int32 × Mem)}  (h : f_X7_inn P I v1 v2 = some (Sum.inl r)) (E : EndR X cX7_inn RX7 3 (some .boolean) 9 n (some (.inl r.1)) r.2 P O D Q) : Here X cX7_inn RX7 3 (some .boolean) 9 n 0 [some (.inr (.inr (7, 0, 0))), some (.inl v1), some (.inl v2)] [] I P O D n Q := by
  unfold f_X7_inn at h
  refine h_aload_n dX7_inn_0 rfl ?_
  refine h_iload_n dX7_inn_1 rfl ?_
  obtain ⟨y1, hh1, h⟩ := thb_R h
  refine h_cVv [.inl v1] (m_X7_requireTown  hh1) cw_X7_149 dX7_inn_2 rfl ok_7 (by decide) rfl (Or.inr rfl) rfl ?_
  refine h_aload_n dX7_inn_5 rfl ?_
  refine g_X7_35  dX7_inn_6 ?_
  refine g_X7_113 (by decide) dX7_inn_9 ?_
  refine h_iload_n dX7_inn_12 rfl ?_
  refine h_ushr dX7_inn_13 ?_
  refine h_iconst (1 : Int32) dX7_inn_14 k_iconst_1 ?_
  refine h_iand dX7_inn_15 ?_
  refine h_iload_n dX7_inn_16 rfl ?_
  refine h_if_eq (tgt := 24) dX7_inn_17 (by decide) (fun q1 => ?_) (fun q1 => ?_)
  · rw [if_pos q1] at h
    refine h_iconst (0 : Int32) dX7_inn_24 k_iconst_0 ?_
    exact h_mask [true, true, false] (b_X7_inn_25 X Q  h E)
  · rw [if_neg q1] at h
    refine h_iconst (1 : Int32) dX7_inn_20 k_iconst_1 ?_
    refine h_goto (tgt := 25) dX7_inn_21 (by decide) ?_
    exact h_mask [true, true, false] (b_X7_inn_25 X Q  h E)
theorem bx_X7_inn (X : CX) (Q : State → Prop) {I : Mem} {P : PMem} {O : Nat → Int64} {D : Bool} {n : Nat} {v1 : Int32} {v2 : Int32} {r : Nat}  (h : f_X7_inn P I v1 v2 = some (Sum.inr r)) (E : EndX X cX7_inn RX7 3 (some .boolean) 9 (n + 1) r I P O D Q) : Here X cX7_inn RX7 3 (some .boolean) 9 (n + 1) 0 [some (.inr (.inr (7, 0, 0))), some (.inl v1), some (.inl v2)] [] I P O D n Q := by
  unfold f_X7_inn at h
  refine h_aload_n dX7_inn_0 rfl ?_
  refine h_iload_n dX7_inn_1 rfl ?_
  rcases thb_X h with hh1 | ⟨y1, hh1, h⟩
  · exact h_callVX (as := [.inl v1]) (mx_X7_requireTown  hh1) cw_X7_149 dX7_inn_2 rfl ok_7 (by decide) rfl rfl E
  refine h_cVv [.inl v1] (m_X7_requireTown  hh1) cw_X7_149 dX7_inn_2 rfl ok_7 (by decide) rfl (Or.inr rfl) rfl ?_
  refine h_aload_n dX7_inn_5 rfl ?_
  refine g_X7_35  dX7_inn_6 ?_
  refine g_X7_113 (by decide) dX7_inn_9 ?_
  refine h_iload_n dX7_inn_12 rfl ?_
  refine h_ushr dX7_inn_13 ?_
  refine h_iconst (1 : Int32) dX7_inn_14 k_iconst_1 ?_
  refine h_iand dX7_inn_15 ?_
  refine h_iload_n dX7_inn_16 rfl ?_
  refine h_if_eq (tgt := 24) dX7_inn_17 (by decide) (fun q1 => ?_) (fun q1 => ?_)
  · rw [if_pos q1] at h
    refine h_iconst (0 : Int32) dX7_inn_24 k_iconst_0 ?_
    exact h_mask [true, true, false] (bx_X7_inn_25 X Q  h E)
  · rw [if_neg q1] at h
    refine h_iconst (1 : Int32) dX7_inn_20 k_iconst_1 ?_
    refine h_goto (tgt := 25) dX7_inn_21 (by decide) ?_
    exact h_mask [true, true, false] (bx_X7_inn_25 X Q  h E)
theorem m_X7_inn {I : Mem} {P : PMem} {O : Nat → Int64} {D : Bool} {n : Nat} {v1 : Int32} {v2 : Int32} {r : (Int32 × Mem)}  (h : f_X7_inn P I v1 v2 = some (Sum.inl r)) : MethR yX7_inn cX7_inn 3 (some .boolean) 9 [.inr (.inr (7, 0, 0)), .inl v1, .inl v2] I P O D n (some (.inl r.1)) r.2 P O D n := meth_R (Nat.le_refl _) (by decide) rfl (Nat.le_of_ble_eq_true rfl) rfl (fun X Q E => b_X7_inn X Q  h E)
theorem mx_X7_inn {I : Mem} {P : PMem} {O : Nat → Int64} {D : Bool} {n : Nat} {v1 : Int32} {v2 : Int32} {r : Nat}  (h : f_X7_inn P I v1 v2 = some (Sum.inr r)) : MethX yX7_inn cX7_inn 3 (some .boolean) 9 [.inr (.inr (7, 0, 0)), .inl v1, .inl v2] I P O D n r I P O D (n + 1) := meth_X (Nat.le_succ _) (by decide) rfl (Nat.le_of_ble_eq_true rfl) rfl (fun X Q E => bx_X7_inn X Q  h E)
def f_X7_word_32  (P : PMem) (I : Mem) : Option ((Int32 × Mem) ⊕ Nat) :=
  (f_X7_refuseAct I).bind fun y1 =>
  some (Sum.inl (y1.1, y1.2))
theorem b_X7_word_32 (X : CX) (Q : State → Prop) {I : Mem} {P : PMem} {O : Nat → Int64} {D : Bool} {n : Nat} {r : (Int32 × Mem)}  (h : f_X7_word_32 P I = some (Sum.inl r)) (E : EndR X cX7_word RX7 4 (some .int) 9 n (some (.inl r.1)) r.2 P O D Q) : Here X cX7_word RX7 4 (some .int) 9 n 32 [some (.inr (.inr (7, 0, 0))), none, none, none] [] I P O D n Q := by
  unfold f_X7_word_32 at h
  refine h_aload_n dX7_word_32 rfl ?_
  obtain ⟨y1, hh1, h⟩ := obd_some h
  refine h_cVi [] (m_X7_refuseAct  hh1) cw_X7_230 dX7_word_33 rfl ok_7 (by decide) rfl (Or.inr rfl) rfl ?_
  cases h
  exact h_iret dX7_word_36 rfl E
theorem bx_X7_word_32 (X : CX) (Q : State → Prop) {I : Mem} {P : PMem} {O : Nat → Int64} {I0 : Mem} {P0 : PMem} {D : Bool} {n : Nat} {r : Nat}  (h : f_X7_word_32 P I = some (Sum.inr r)) (E : EndX X cX7_word RX7 4 (some .int) 9 (n + 1) r I0 P0 O D Q) : Here X cX7_word RX7 4 (some .int) 9 (n + 1) 32 [some (.inr (.inr (7, 0, 0))), none, none, none] [] I P O D n Q := by
  unfold f_X7_word_32 at h
  refine h_aload_n dX7_word_32 rfl ?_
  obtain ⟨y1, hh1, h⟩ := obd_some h
  refine h_cVi [] (m_X7_refuseAct  hh1) cw_X7_230 dX7_word_33 rfl ok_7 (by decide) rfl (Or.inr rfl) rfl ?_
  cases h
def f_X7_word  (P : PMem) (I : Mem) (v1 : Int32) (v2 : Int32) (v3 : Int32) : Option ((Int32 × Mem) ⊕ Nat) :=
  thb (f_X7_requireCase I P v1) fun y1 =>
  thb (f_X7_requireTown I P v2) fun y2 =>
  (f_X6_isFull I 0).bind fun y3 =>
  if y3 = 0 then ((f_X7_isOutside I v3 (99 : Int32)).bind fun y4 =>
  if y4 = 0 then ((f_X6_add 0 I v1 v2 v3).bind fun y5 =>
  (f_X7_keepAct y5 (2 : Int32) v2 (0 : Int32)).bind fun y6 =>
  some (Sum.inl ((y6 6 0 0 3), y6))) else (f_X7_word_32 P I)) else (f_X7_word_32 P I)
theorem b_X7_word (X : CX) (Q : State → Prop) {I : Mem} {P : PMem} {O : Nat → Int64} {D : Bool} {n : Nat} {v1 : Int32} {v2 : Int32} {v3 : Int32} {r : (Int32 × Mem)}  (h : f_X7_word P I v1 v2 v3 = some (Sum.inl r)) (E : EndR X cX7_word RX7 4 (some .int) 9 n (some (.inl r.1)) r.2 P O D Q) : Here X cX7_word RX7 4 (some .int) 9 n 0 [some (.inr (.inr (7, 0, 0))), some (.inl v1), some (.inl v2), some (.inl v3)] [] I P O D n Q := by
  unfold f_X7_word at h
  refine h_aload_n dX7_word_0 rfl ?_
  refine h_iload_n dX7_word_1 rfl ?_
  obtain ⟨y1, hh1, h⟩ := thb_R h
  refine h_cVv [.inl v1] (m_X7_requireCase  hh1) cw_X7_194 dX7_word_2 rfl ok_7 (by decide) rfl (Or.inr rfl) rfl ?_
  refine h_aload_n dX7_word_5 rfl ?_
  refine h_iload_n dX7_word_6 rfl ?_
  obtain ⟨y2, hh2, h⟩ := thb_R h
  refine h_cVv [.inl v2] (m_X7_requireTown  hh2) cw_X7_149 dX7_word_7 rfl ok_7 (by decide) rfl (Or.inr rfl) rfl ?_
  refine h_aload_n dX7_word_10 rfl ?_
  refine g_X7_35  dX7_word_11 ?_
  refine g_X7_116 (by decide) dX7_word_14 ?_
  obtain ⟨y3, hh3, h⟩ := obd_some h
  refine h_cVi [] (m_X6_isFull (by decide) hh3) cw_X7_237 dX7_word_17 rfl (ok_6 (by decide)) (by decide) rfl (Or.inr rfl) rfl ?_
  refine h_if_ne (tgt := 32) dX7_word_20 (by decide) (fun q1 => ?_) (fun q1 => ?_)
  · rw [if_neg q1] at h
    exact h_mask [true, false, false, false] (b_X7_word_32 X Q  h E)
  · rw [if_pos q1] at h
    refine h_iload_n dX7_word_23 rfl ?_
    refine h_bipush (99 : Int32) dX7_word_24 k_bipush_99 ?_
    obtain ⟨y4, hh4, h⟩ := obd_some h
    refine h_cSi [.inl v3, .inl (99 : Int32)] (m_X7_isOutside  hh4) cs_X7_226 dX7_word_26 rfl (by decide) rfl (Or.inr rfl) rfl ?_
    refine h_if_eq (tgt := 37) dX7_word_29 (by decide) (fun q2 => ?_) (fun q2 => ?_)
    · rw [if_pos q2] at h
      refine h_aload_n dX7_word_37 rfl ?_
      refine g_X7_35  dX7_word_38 ?_
      refine g_X7_116 (by decide) dX7_word_41 ?_
      refine h_iload_n dX7_word_44 rfl ?_
      refine h_iload_n dX7_word_45 rfl ?_
      refine h_iload_n dX7_word_46 rfl ?_
      obtain ⟨y5, hh5, h⟩ := obd_some h
      refine h_cVv [.inl v1, .inl v2, .inl v3] (m_X6_add (by decide) hh5) cw_X7_241 dX7_word_47 rfl (ok_6 (by decide)) (by decide) rfl (Or.inr rfl) rfl ?_
      refine h_aload_n dX7_word_50 rfl ?_
      refine h_iconst (2 : Int32) dX7_word_51 k_iconst_2 ?_
      refine h_iload_n dX7_word_52 rfl ?_
      refine h_iconst (0 : Int32) dX7_word_53 k_iconst_0 ?_
      obtain ⟨y6, hh6, h⟩ := obd_some h
      refine h_cVv [.inl (2 : Int32), .inl v2, .inl (0 : Int32)] (m_X7_keepAct  hh6) cw_X7_233 dX7_word_54 rfl ok_7 (by decide) rfl (Or.inr rfl) rfl ?_
      refine h_aload_n dX7_word_57 rfl ?_
      refine g_X7_35  dX7_word_58 ?_
      refine g_X7_116 (by decide) dX7_word_61 ?_
      refine g_X7_120 (by decide) dX7_word_64 ?_
      cases h
      exact h_iret dX7_word_67 rfl E
    · rw [if_neg q2] at h
      exact h_mask [true, false, false, false] (b_X7_word_32 X Q  h E)
theorem bx_X7_word (X : CX) (Q : State → Prop) {I : Mem} {P : PMem} {O : Nat → Int64} {D : Bool} {n : Nat} {v1 : Int32} {v2 : Int32} {v3 : Int32} {r : Nat}  (h : f_X7_word P I v1 v2 v3 = some (Sum.inr r)) (E : EndX X cX7_word RX7 4 (some .int) 9 (n + 1) r I P O D Q) : Here X cX7_word RX7 4 (some .int) 9 (n + 1) 0 [some (.inr (.inr (7, 0, 0))), some (.inl v1), some (.inl v2), some (.inl v3)] [] I P O D n Q := by
  unfold f_X7_word at h
  refine h_aload_n dX7_word_0 rfl ?_
  refine h_iload_n dX7_word_1 rfl ?_
  rcases thb_X h with hh1 | ⟨y1, hh1, h⟩
  · exact h_callVX (as := [.inl v1]) (mx_X7_requireCase  hh1) cw_X7_194 dX7_word_2 rfl ok_7 (by decide) rfl rfl E
  refine h_cVv [.inl v1] (m_X7_requireCase  hh1) cw_X7_194 dX7_word_2 rfl ok_7 (by decide) rfl (Or.inr rfl) rfl ?_
  refine h_aload_n dX7_word_5 rfl ?_
  refine h_iload_n dX7_word_6 rfl ?_
  rcases thb_X h with hh2 | ⟨y2, hh2, h⟩
  · exact h_callVX (as := [.inl v2]) (mx_X7_requireTown  hh2) cw_X7_149 dX7_word_7 rfl ok_7 (by decide) rfl rfl E
  refine h_cVv [.inl v2] (m_X7_requireTown  hh2) cw_X7_149 dX7_word_7 rfl ok_7 (by decide) rfl (Or.inr rfl) rfl ?_
  refine h_aload_n dX7_word_10 rfl ?_
  refine g_X7_35  dX7_word_11 ?_
  refine g_X7_116 (by decide) dX7_word_14 ?_
  obtain ⟨y3, hh3, h⟩ := obd_some h
  refine h_cVi [] (m_X6_isFull (by decide) hh3) cw_X7_237 dX7_word_17 rfl (ok_6 (by decide)) (by decide) rfl (Or.inr rfl) rfl ?_
  refine h_if_ne (tgt := 32) dX7_word_20 (by decide) (fun q1 => ?_) (fun q1 => ?_)
  · rw [if_neg q1] at h
    exact h_mask [true, false, false, false] (bx_X7_word_32 X Q  h E)
  · rw [if_pos q1] at h
    refine h_iload_n dX7_word_23 rfl ?_
    refine h_bipush (99 : Int32) dX7_word_24 k_bipush_99 ?_
    obtain ⟨y4, hh4, h⟩ := obd_some h
    refine h_cSi [.inl v3, .inl (99 : Int32)] (m_X7_isOutside  hh4) cs_X7_226 dX7_word_26 rfl (by decide) rfl (Or.inr rfl) rfl ?_
    refine h_if_eq (tgt := 37) dX7_word_29 (by decide) (fun q2 => ?_) (fun q2 => ?_)
    · rw [if_pos q2] at h
      refine h_aload_n dX7_word_37 rfl ?_
      refine g_X7_35  dX7_word_38 ?_
      refine g_X7_116 (by decide) dX7_word_41 ?_
      refine h_iload_n dX7_word_44 rfl ?_
      refine h_iload_n dX7_word_45 rfl ?_
      refine h_iload_n dX7_word_46 rfl ?_
      obtain ⟨y5, hh5, h⟩ := obd_some h
      refine h_cVv [.inl v1, .inl v2, .inl v3] (m_X6_add (by decide) hh5) cw_X7_241 dX7_word_47 rfl (ok_6 (by decide)) (by decide) rfl (Or.inr rfl) rfl ?_
      refine h_aload_n dX7_word_50 rfl ?_
      refine h_iconst (2 : Int32) dX7_word_51 k_iconst_2 ?_
      refine h_iload_n dX7_word_52 rfl ?_
      refine h_iconst (0 : Int32) dX7_word_53 k_iconst_0 ?_
      obtain ⟨y6, hh6, h⟩ := obd_some h
      refine h_cVv [.inl (2 : Int32), .inl v2, .inl (0 : Int32)] (m_X7_keepAct  hh6) cw_X7_233 dX7_word_54 rfl ok_7 (by decide) rfl (Or.inr rfl) rfl ?_
      refine h_aload_n dX7_word_57 rfl ?_
      refine g_X7_35  dX7_word_58 ?_
      refine g_X7_116 (by decide) dX7_word_61 ?_
      refine g_X7_120 (by decide) dX7_word_64 ?_
      cases h
    · rw [if_neg q2] at h
      exact h_mask [true, false, false, false] (bx_X7_word_32 X Q  h E)
theorem m_X7_word {I : Mem} {P : PMem} {O : Nat → Int64} {D : Bool} {n : Nat} {v1 : Int32} {v2 : Int32} {v3 : Int32} {r : (Int32 × Mem)}  (h : f_X7_word P I v1 v2 v3 = some (Sum.inl r)) : MethR yX7_word cX7_word 4 (some .int) 9 [.inr (.inr (7, 0, 0)), .inl v1, .inl v2, .inl v3] I P O D n (some (.inl r.1)) r.2 P O D n := meth_R (Nat.le_refl _) (by decide) rfl (Nat.le_of_ble_eq_true rfl) rfl (fun X Q E => b_X7_word X Q  h E)
theorem mx_X7_word {I : Mem} {P : PMem} {O : Nat → Int64} {D : Bool} {n : Nat} {v1 : Int32} {v2 : Int32} {v3 : Int32} {r : Nat}  (h : f_X7_word P I v1 v2 v3 = some (Sum.inr r)) : MethX yX7_word cX7_word 4 (some .int) 9 [.inr (.inr (7, 0, 0)), .inl v1, .inl v2, .inl v3] I P O D n r I P O D (n + 1) := meth_X (Nat.le_succ _) (by decide) rfl (Nat.le_of_ble_eq_true rfl) rfl (fun X Q E => bx_X7_word X Q  h E)
def f_X7_feast_41  (P : PMem) (I : Mem) : Option ((Int32 × Mem) ⊕ Nat) :=
  (f_X7_refuseAct I).bind fun y1 =>
  some (Sum.inl (y1.1, y1.2))
theorem b_X7_feast_41 (X : CX) (Q : State → Prop) {I : Mem} {P : PMem} {O : Nat → Int64} {D : Bool} {n : Nat} {r : (Int32 × Mem)}  (h : f_X7_feast_41 P I = some (Sum.inl r)) (E : EndR X cX7_feast RX7 4 (some .int) 9 n (some (.inl r.1)) r.2 P O D Q) : Here X cX7_feast RX7 4 (some .int) 9 n 41 [some (.inr (.inr (7, 0, 0))), none, none, none] [] I P O D n Q := by
  unfold f_X7_feast_41 at h
  refine h_aload_n dX7_feast_41 rfl ?_
  obtain ⟨y1, hh1, h⟩ := obd_some h
  refine h_cVi [] (m_X7_refuseAct  hh1) cw_X7_230 dX7_feast_42 rfl ok_7 (by decide) rfl (Or.inr rfl) rfl ?_
  cases h
  exact h_iret dX7_feast_45 rfl E
theorem bx_X7_feast_41 (X : CX) (Q : State → Prop) {I : Mem} {P : PMem} {O : Nat → Int64} {I0 : Mem} {P0 : PMem} {D : Bool} {n : Nat} {r : Nat}  (h : f_X7_feast_41 P I = some (Sum.inr r)) (E : EndX X cX7_feast RX7 4 (some .int) 9 (n + 1) r I0 P0 O D Q) : Here X cX7_feast RX7 4 (some .int) 9 (n + 1) 41 [some (.inr (.inr (7, 0, 0))), none, none, none] [] I P O D n Q := by
  unfold f_X7_feast_41 at h
  refine h_aload_n dX7_feast_41 rfl ?_
  obtain ⟨y1, hh1, h⟩ := obd_some h
  refine h_cVi [] (m_X7_refuseAct  hh1) cw_X7_230 dX7_feast_42 rfl ok_7 (by decide) rfl (Or.inr rfl) rfl ?_
  cases h
def f_X7_feast  (P : PMem) (I : Mem) (v1 : Int32) (v2 : Int32) (v3 : Int32) : Option ((Int32 × Mem) ⊕ Nat) :=
  thb (f_X7_requireTown I P v1) fun y1 =>
  (f_X6_isFull I 1).bind fun y2 =>
  if y2 = 0 then ((f_X7_isOutside I v2 (99 : Int32)).bind fun y3 =>
  if y3 = 0 then ((f_X7_isOutside I v3 (99 : Int32)).bind fun y4 =>
  if y4 = 0 then (if v2 ≤ v3 then ((f_X6_add 1 I v1 v2 v3).bind fun y5 =>
  (f_X7_keepAct y5 (3 : Int32) v1 (0 : Int32)).bind fun y6 =>
  some (Sum.inl ((y6 6 1 0 3), y6))) else (f_X7_feast_41 P I)) else (f_X7_feast_41 P I)) else (f_X7_feast_41 P I)) else (f_X7_feast_41 P I)
theorem b_X7_feast (X : CX) (Q : State → Prop) {I : Mem} {P : PMem} {O : Nat → Int64} {D : Bool} {n : Nat} {v1 : Int32} {v2 : Int32} {v3 : Int32} {r : (Int32 × Mem)}  (h : f_X7_feast P I v1 v2 v3 = some (Sum.inl r)) (E : EndR X cX7_feast RX7 4 (some .int) 9 n (some (.inl r.1)) r.2 P O D Q) : Here X cX7_feast RX7 4 (some .int) 9 n 0 [some (.inr (.inr (7, 0, 0))), some (.inl v1), some (.inl v2), some (.inl v3)] [] I P O D n Q := by
  unfold f_X7_feast at h
  refine h_aload_n dX7_feast_0 rfl ?_
  refine h_iload_n dX7_feast_1 rfl ?_
  obtain ⟨y1, hh1, h⟩ := thb_R h
  refine h_cVv [.inl v1] (m_X7_requireTown  hh1) cw_X7_149 dX7_feast_2 rfl ok_7 (by decide) rfl (Or.inr rfl) rfl ?_
  refine h_aload_n dX7_feast_5 rfl ?_
  refine g_X7_35  dX7_feast_6 ?_
  refine g_X7_125 (by decide) dX7_feast_9 ?_
  obtain ⟨y2, hh2, h⟩ := obd_some h
  refine h_cVi [] (m_X6_isFull (by decide) hh2) cw_X7_237 dX7_feast_12 rfl (ok_6 (by decide)) (by decide) rfl (Or.inr rfl) rfl ?_
  refine h_if_ne (tgt := 41) dX7_feast_15 (by decide) (fun q1 => ?_) (fun q1 => ?_)
  · rw [if_neg q1] at h
    exact h_mask [true, false, false, false] (b_X7_feast_41 X Q  h E)
  · rw [if_pos q1] at h
    refine h_iload_n dX7_feast_18 rfl ?_
    refine h_bipush (99 : Int32) dX7_feast_19 k_bipush_99 ?_
    obtain ⟨y3, hh3, h⟩ := obd_some h
    refine h_cSi [.inl v2, .inl (99 : Int32)] (m_X7_isOutside  hh3) cs_X7_226 dX7_feast_21 rfl (by decide) rfl (Or.inr rfl) rfl ?_
    refine h_if_ne (tgt := 41) dX7_feast_24 (by decide) (fun q2 => ?_) (fun q2 => ?_)
    · rw [if_neg q2] at h
      exact h_mask [true, false, false, false] (b_X7_feast_41 X Q  h E)
    · rw [if_pos q2] at h
      refine h_iload_n dX7_feast_27 rfl ?_
      refine h_bipush (99 : Int32) dX7_feast_28 k_bipush_99 ?_
      obtain ⟨y4, hh4, h⟩ := obd_some h
      refine h_cSi [.inl v3, .inl (99 : Int32)] (m_X7_isOutside  hh4) cs_X7_226 dX7_feast_30 rfl (by decide) rfl (Or.inr rfl) rfl ?_
      refine h_if_ne (tgt := 41) dX7_feast_33 (by decide) (fun q3 => ?_) (fun q3 => ?_)
      · rw [if_neg q3] at h
        exact h_mask [true, false, false, false] (b_X7_feast_41 X Q  h E)
      · rw [if_pos q3] at h
        refine h_iload_n dX7_feast_36 rfl ?_
        refine h_iload_n dX7_feast_37 rfl ?_
        refine h_icmp_ge (tgt := 46) dX7_feast_38 (by decide) (fun q4 => ?_) (fun q4 => ?_)
        · rw [if_pos q4] at h
          refine h_aload_n dX7_feast_46 rfl ?_
          refine g_X7_35  dX7_feast_47 ?_
          refine g_X7_125 (by decide) dX7_feast_50 ?_
          refine h_iload_n dX7_feast_53 rfl ?_
          refine h_iload_n dX7_feast_54 rfl ?_
          refine h_iload_n dX7_feast_55 rfl ?_
          obtain ⟨y5, hh5, h⟩ := obd_some h
          refine h_cVv [.inl v1, .inl v2, .inl v3] (m_X6_add (by decide) hh5) cw_X7_241 dX7_feast_56 rfl (ok_6 (by decide)) (by decide) rfl (Or.inr rfl) rfl ?_
          refine h_aload_n dX7_feast_59 rfl ?_
          refine h_iconst (3 : Int32) dX7_feast_60 k_iconst_3 ?_
          refine h_iload_n dX7_feast_61 rfl ?_
          refine h_iconst (0 : Int32) dX7_feast_62 k_iconst_0 ?_
          obtain ⟨y6, hh6, h⟩ := obd_some h
          refine h_cVv [.inl (3 : Int32), .inl v1, .inl (0 : Int32)] (m_X7_keepAct  hh6) cw_X7_233 dX7_feast_63 rfl ok_7 (by decide) rfl (Or.inr rfl) rfl ?_
          refine h_aload_n dX7_feast_66 rfl ?_
          refine g_X7_35  dX7_feast_67 ?_
          refine g_X7_125 (by decide) dX7_feast_70 ?_
          refine g_X7_120 (by decide) dX7_feast_73 ?_
          cases h
          exact h_iret dX7_feast_76 rfl E
        · rw [if_neg q4] at h
          exact h_mask [true, false, false, false] (b_X7_feast_41 X Q  h E)
theorem bx_X7_feast (X : CX) (Q : State → Prop) {I : Mem} {P : PMem} {O : Nat → Int64} {D : Bool} {n : Nat} {v1 : Int32} {v2 : Int32} {v3 : Int32} {r : Nat}  (h : f_X7_feast P I v1 v2 v3 = some (Sum.inr r)) (E : EndX X cX7_feast RX7 4 (some .int) 9 (n + 1) r I P O D Q) : Here X cX7_feast RX7 4 (some .int) 9 (n + 1) 0 [some (.inr (.inr (7, 0, 0))), some (.inl v1), some (.inl v2), some (.inl v3)] [] I P O D n Q := by
  unfold f_X7_feast at h
  refine h_aload_n dX7_feast_0 rfl ?_
  refine h_iload_n dX7_feast_1 rfl ?_
  rcases thb_X h with hh1 | ⟨y1, hh1, h⟩
  · exact h_callVX (as := [.inl v1]) (mx_X7_requireTown  hh1) cw_X7_149 dX7_feast_2 rfl ok_7 (by decide) rfl rfl E
  refine h_cVv [.inl v1] (m_X7_requireTown  hh1) cw_X7_149 dX7_feast_2 rfl ok_7 (by decide) rfl (Or.inr rfl) rfl ?_
  refine h_aload_n dX7_feast_5 rfl ?_
  refine g_X7_35  dX7_feast_6 ?_
  refine g_X7_125 (by decide) dX7_feast_9 ?_
  obtain ⟨y2, hh2, h⟩ := obd_some h
  refine h_cVi [] (m_X6_isFull (by decide) hh2) cw_X7_237 dX7_feast_12 rfl (ok_6 (by decide)) (by decide) rfl (Or.inr rfl) rfl ?_
  refine h_if_ne (tgt := 41) dX7_feast_15 (by decide) (fun q1 => ?_) (fun q1 => ?_)
  · rw [if_neg q1] at h
    exact h_mask [true, false, false, false] (bx_X7_feast_41 X Q  h E)
  · rw [if_pos q1] at h
    refine h_iload_n dX7_feast_18 rfl ?_
    refine h_bipush (99 : Int32) dX7_feast_19 k_bipush_99 ?_
    obtain ⟨y3, hh3, h⟩ := obd_some h
    refine h_cSi [.inl v2, .inl (99 : Int32)] (m_X7_isOutside  hh3) cs_X7_226 dX7_feast_21 rfl (by decide) rfl (Or.inr rfl) rfl ?_
    refine h_if_ne (tgt := 41) dX7_feast_24 (by decide) (fun q2 => ?_) (fun q2 => ?_)
    · rw [if_neg q2] at h
      exact h_mask [true, false, false, false] (bx_X7_feast_41 X Q  h E)
    · rw [if_pos q2] at h
      refine h_iload_n dX7_feast_27 rfl ?_
      refine h_bipush (99 : Int32) dX7_feast_28 k_bipush_99 ?_
      obtain ⟨y4, hh4, h⟩ := obd_some h
      refine h_cSi [.inl v3, .inl (99 : Int32)] (m_X7_isOutside  hh4) cs_X7_226 dX7_feast_30 rfl (by decide) rfl (Or.inr rfl) rfl ?_
      refine h_if_ne (tgt := 41) dX7_feast_33 (by decide) (fun q3 => ?_) (fun q3 => ?_)
      · rw [if_neg q3] at h
        exact h_mask [true, false, false, false] (bx_X7_feast_41 X Q  h E)
      · rw [if_pos q3] at h
        refine h_iload_n dX7_feast_36 rfl ?_
        refine h_iload_n dX7_feast_37 rfl ?_
        refine h_icmp_ge (tgt := 46) dX7_feast_38 (by decide) (fun q4 => ?_) (fun q4 => ?_)
        · rw [if_pos q4] at h
          refine h_aload_n dX7_feast_46 rfl ?_
          refine g_X7_35  dX7_feast_47 ?_
          refine g_X7_125 (by decide) dX7_feast_50 ?_
          refine h_iload_n dX7_feast_53 rfl ?_
          refine h_iload_n dX7_feast_54 rfl ?_
          refine h_iload_n dX7_feast_55 rfl ?_
          obtain ⟨y5, hh5, h⟩ := obd_some h
          refine h_cVv [.inl v1, .inl v2, .inl v3] (m_X6_add (by decide) hh5) cw_X7_241 dX7_feast_56 rfl (ok_6 (by decide)) (by decide) rfl (Or.inr rfl) rfl ?_
          refine h_aload_n dX7_feast_59 rfl ?_
          refine h_iconst (3 : Int32) dX7_feast_60 k_iconst_3 ?_
          refine h_iload_n dX7_feast_61 rfl ?_
          refine h_iconst (0 : Int32) dX7_feast_62 k_iconst_0 ?_
          obtain ⟨y6, hh6, h⟩ := obd_some h
          refine h_cVv [.inl (3 : Int32), .inl v1, .inl (0 : Int32)] (m_X7_keepAct  hh6) cw_X7_233 dX7_feast_63 rfl ok_7 (by decide) rfl (Or.inr rfl) rfl ?_
          refine h_aload_n dX7_feast_66 rfl ?_
          refine g_X7_35  dX7_feast_67 ?_
          refine g_X7_125 (by decide) dX7_feast_70 ?_
          refine g_X7_120 (by decide) dX7_feast_73 ?_
          cases h
        · rw [if_neg q4] at h
          exact h_mask [true, false, false, false] (bx_X7_feast_41 X Q  h E)
theorem m_X7_feast {I : Mem} {P : PMem} {O : Nat → Int64} {D : Bool} {n : Nat} {v1 : Int32} {v2 : Int32} {v3 : Int32} {r : (Int32 × Mem)}  (h : f_X7_feast P I v1 v2 v3 = some (Sum.inl r)) : MethR yX7_feast cX7_feast 4 (some .int) 9 [.inr (.inr (7, 0, 0)), .inl v1, .inl v2, .inl v3] I P O D n (some (.inl r.1)) r.2 P O D n := meth_R (Nat.le_refl _) (by decide) rfl (Nat.le_of_ble_eq_true rfl) rfl (fun X Q E => b_X7_feast X Q  h E)
theorem mx_X7_feast {I : Mem} {P : PMem} {O : Nat → Int64} {D : Bool} {n : Nat} {v1 : Int32} {v2 : Int32} {v3 : Int32} {r : Nat}  (h : f_X7_feast P I v1 v2 v3 = some (Sum.inr r)) : MethX yX7_feast cX7_feast 4 (some .int) 9 [.inr (.inr (7, 0, 0)), .inl v1, .inl v2, .inl v3] I P O D n r I P O D (n + 1) := meth_X (Nat.le_succ _) (by decide) rfl (Nat.le_of_ble_eq_true rfl) rfl (fun X Q E => bx_X7_feast X Q  h E)
def f_X7_flood_36  (P : PMem) (I : Mem) : Option ((Int32 × Mem) ⊕ Nat) :=
  (f_X7_refuseAct I).bind fun y1 =>
  some (Sum.inl (y1.1, y1.2))
theorem b_X7_flood_36 (X : CX) (Q : State → Prop) {I : Mem} {P : PMem} {O : Nat → Int64} {D : Bool} {n : Nat} {r : (Int32 × Mem)}  (h : f_X7_flood_36 P I = some (Sum.inl r)) (E : EndR X cX7_flood RX7 4 (some .int) 9 n (some (.inl r.1)) r.2 P O D Q) : Here X cX7_flood RX7 4 (some .int) 9 n 36 [some (.inr (.inr (7, 0, 0))), none, none, none] [] I P O D n Q := by
  unfold f_X7_flood_36 at h
  refine h_aload_n dX7_flood_36 rfl ?_
  obtain ⟨y1, hh1, h⟩ := obd_some h
  refine h_cVi [] (m_X7_refuseAct  hh1) cw_X7_230 dX7_flood_37 rfl ok_7 (by decide) rfl (Or.inr rfl) rfl ?_
  cases h
  exact h_iret dX7_flood_40 rfl E
theorem bx_X7_flood_36 (X : CX) (Q : State → Prop) {I : Mem} {P : PMem} {O : Nat → Int64} {I0 : Mem} {P0 : PMem} {D : Bool} {n : Nat} {r : Nat}  (h : f_X7_flood_36 P I = some (Sum.inr r)) (E : EndX X cX7_flood RX7 4 (some .int) 9 (n + 1) r I0 P0 O D Q) : Here X cX7_flood RX7 4 (some .int) 9 (n + 1) 36 [some (.inr (.inr (7, 0, 0))), none, none, none] [] I P O D n Q := by
  unfold f_X7_flood_36 at h
  refine h_aload_n dX7_flood_36 rfl ?_
  obtain ⟨y1, hh1, h⟩ := obd_some h
  refine h_cVi [] (m_X7_refuseAct  hh1) cw_X7_230 dX7_flood_37 rfl ok_7 (by decide) rfl (Or.inr rfl) rfl ?_
  cases h
def f_X7_flood  (P : PMem) (I : Mem) (v1 : Int32) (v2 : Int32) (v3 : Int32) : Option ((Int32 × Mem) ⊕ Nat) :=
  thb (f_X7_requireTown I P v1) fun y1 =>
  (f_X6_isFull I 2).bind fun y2 =>
  if y2 = 0 then ((f_X7_isOutside I v2 (99 : Int32)).bind fun y3 =>
  if y3 = 0 then ((f_X7_isOutside I v3 (20 : Int32)).bind fun y4 =>
  if y4 = 0 then ((f_X6_add 2 I v1 v2 v3).bind fun y5 =>
  (f_X7_keepAct y5 (4 : Int32) v1 (0 : Int32)).bind fun y6 =>
  some (Sum.inl ((y6 6 2 0 3), y6))) else (f_X7_flood_36 P I)) else (f_X7_flood_36 P I)) else (f_X7_flood_36 P I)
theorem b_X7_flood (X : CX) (Q : State → Prop) {I : Mem} {P : PMem} {O : Nat → Int64} {D : Bool} {n : Nat} {v1 : Int32} {v2 : Int32} {v3 : Int32} {r : (Int32 × Mem)}  (h : f_X7_flood P I v1 v2 v3 = some (Sum.inl r)) (E : EndR X cX7_flood RX7 4 (some .int) 9 n (some (.inl r.1)) r.2 P O D Q) : Here X cX7_flood RX7 4 (some .int) 9 n 0 [some (.inr (.inr (7, 0, 0))), some (.inl v1), some (.inl v2), some (.inl v3)] [] I P O D n Q := by
  unfold f_X7_flood at h
  refine h_aload_n dX7_flood_0 rfl ?_
  refine h_iload_n dX7_flood_1 rfl ?_
  obtain ⟨y1, hh1, h⟩ := thb_R h
  refine h_cVv [.inl v1] (m_X7_requireTown  hh1) cw_X7_149 dX7_flood_2 rfl ok_7 (by decide) rfl (Or.inr rfl) rfl ?_
  refine h_aload_n dX7_flood_5 rfl ?_
  refine g_X7_35  dX7_flood_6 ?_
  refine g_X7_128 (by decide) dX7_flood_9 ?_
  obtain ⟨y2, hh2, h⟩ := obd_some h
  refine h_cVi [] (m_X6_isFull (by decide) hh2) cw_X7_237 dX7_flood_12 rfl (ok_6 (by decide)) (by decide) rfl (Or.inr rfl) rfl ?_
  refine h_if_ne (tgt := 36) dX7_flood_15 (by decide) (fun q1 => ?_) (fun q1 => ?_)
  · rw [if_neg q1] at h
    exact h_mask [true, false, false, false] (b_X7_flood_36 X Q  h E)
  · rw [if_pos q1] at h
    refine h_iload_n dX7_flood_18 rfl ?_
    refine h_bipush (99 : Int32) dX7_flood_19 k_bipush_99 ?_
    obtain ⟨y3, hh3, h⟩ := obd_some h
    refine h_cSi [.inl v2, .inl (99 : Int32)] (m_X7_isOutside  hh3) cs_X7_226 dX7_flood_21 rfl (by decide) rfl (Or.inr rfl) rfl ?_
    refine h_if_ne (tgt := 36) dX7_flood_24 (by decide) (fun q2 => ?_) (fun q2 => ?_)
    · rw [if_neg q2] at h
      exact h_mask [true, false, false, false] (b_X7_flood_36 X Q  h E)
    · rw [if_pos q2] at h
      refine h_iload_n dX7_flood_27 rfl ?_
      refine h_bipush (20 : Int32) dX7_flood_28 k_bipush_20 ?_
      obtain ⟨y4, hh4, h⟩ := obd_some h
      refine h_cSi [.inl v3, .inl (20 : Int32)] (m_X7_isOutside  hh4) cs_X7_226 dX7_flood_30 rfl (by decide) rfl (Or.inr rfl) rfl ?_
      refine h_if_eq (tgt := 41) dX7_flood_33 (by decide) (fun q3 => ?_) (fun q3 => ?_)
      · rw [if_pos q3] at h
        refine h_aload_n dX7_flood_41 rfl ?_
        refine g_X7_35  dX7_flood_42 ?_
        refine g_X7_128 (by decide) dX7_flood_45 ?_
        refine h_iload_n dX7_flood_48 rfl ?_
        refine h_iload_n dX7_flood_49 rfl ?_
        refine h_iload_n dX7_flood_50 rfl ?_
        obtain ⟨y5, hh5, h⟩ := obd_some h
        refine h_cVv [.inl v1, .inl v2, .inl v3] (m_X6_add (by decide) hh5) cw_X7_241 dX7_flood_51 rfl (ok_6 (by decide)) (by decide) rfl (Or.inr rfl) rfl ?_
        refine h_aload_n dX7_flood_54 rfl ?_
        refine h_iconst (4 : Int32) dX7_flood_55 k_iconst_4 ?_
        refine h_iload_n dX7_flood_56 rfl ?_
        refine h_iconst (0 : Int32) dX7_flood_57 k_iconst_0 ?_
        obtain ⟨y6, hh6, h⟩ := obd_some h
        refine h_cVv [.inl (4 : Int32), .inl v1, .inl (0 : Int32)] (m_X7_keepAct  hh6) cw_X7_233 dX7_flood_58 rfl ok_7 (by decide) rfl (Or.inr rfl) rfl ?_
        refine h_aload_n dX7_flood_61 rfl ?_
        refine g_X7_35  dX7_flood_62 ?_
        refine g_X7_128 (by decide) dX7_flood_65 ?_
        refine g_X7_120 (by decide) dX7_flood_68 ?_
        cases h
        exact h_iret dX7_flood_71 rfl E
      · rw [if_neg q3] at h
        exact h_mask [true, false, false, false] (b_X7_flood_36 X Q  h E)
theorem bx_X7_flood (X : CX) (Q : State → Prop) {I : Mem} {P : PMem} {O : Nat → Int64} {D : Bool} {n : Nat} {v1 : Int32} {v2 : Int32} {v3 : Int32} {r : Nat}  (h : f_X7_flood P I v1 v2 v3 = some (Sum.inr r)) (E : EndX X cX7_flood RX7 4 (some .int) 9 (n + 1) r I P O D Q) : Here X cX7_flood RX7 4 (some .int) 9 (n + 1) 0 [some (.inr (.inr (7, 0, 0))), some (.inl v1), some (.inl v2), some (.inl v3)] [] I P O D n Q := by
  unfold f_X7_flood at h
  refine h_aload_n dX7_flood_0 rfl ?_
  refine h_iload_n dX7_flood_1 rfl ?_
  rcases thb_X h with hh1 | ⟨y1, hh1, h⟩
  · exact h_callVX (as := [.inl v1]) (mx_X7_requireTown  hh1) cw_X7_149 dX7_flood_2 rfl ok_7 (by decide) rfl rfl E
  refine h_cVv [.inl v1] (m_X7_requireTown  hh1) cw_X7_149 dX7_flood_2 rfl ok_7 (by decide) rfl (Or.inr rfl) rfl ?_
  refine h_aload_n dX7_flood_5 rfl ?_
  refine g_X7_35  dX7_flood_6 ?_
  refine g_X7_128 (by decide) dX7_flood_9 ?_
  obtain ⟨y2, hh2, h⟩ := obd_some h
  refine h_cVi [] (m_X6_isFull (by decide) hh2) cw_X7_237 dX7_flood_12 rfl (ok_6 (by decide)) (by decide) rfl (Or.inr rfl) rfl ?_
  refine h_if_ne (tgt := 36) dX7_flood_15 (by decide) (fun q1 => ?_) (fun q1 => ?_)
  · rw [if_neg q1] at h
    exact h_mask [true, false, false, false] (bx_X7_flood_36 X Q  h E)
  · rw [if_pos q1] at h
    refine h_iload_n dX7_flood_18 rfl ?_
    refine h_bipush (99 : Int32) dX7_flood_19 k_bipush_99 ?_
    obtain ⟨y3, hh3, h⟩ := obd_some h
    refine h_cSi [.inl v2, .inl (99 : Int32)] (m_X7_isOutside  hh3) cs_X7_226 dX7_flood_21 rfl (by decide) rfl (Or.inr rfl) rfl ?_
    refine h_if_ne (tgt := 36) dX7_flood_24 (by decide) (fun q2 => ?_) (fun q2 => ?_)
    · rw [if_neg q2] at h
      exact h_mask [true, false, false, false] (bx_X7_flood_36 X Q  h E)
    · rw [if_pos q2] at h
      refine h_iload_n dX7_flood_27 rfl ?_
      refine h_bipush (20 : Int32) dX7_flood_28 k_bipush_20 ?_
      obtain ⟨y4, hh4, h⟩ := obd_some h
      refine h_cSi [.inl v3, .inl (20 : Int32)] (m_X7_isOutside  hh4) cs_X7_226 dX7_flood_30 rfl (by decide) rfl (Or.inr rfl) rfl ?_
      refine h_if_eq (tgt := 41) dX7_flood_33 (by decide) (fun q3 => ?_) (fun q3 => ?_)
      · rw [if_pos q3] at h
        refine h_aload_n dX7_flood_41 rfl ?_
        refine g_X7_35  dX7_flood_42 ?_
        refine g_X7_128 (by decide) dX7_flood_45 ?_
        refine h_iload_n dX7_flood_48 rfl ?_
        refine h_iload_n dX7_flood_49 rfl ?_
        refine h_iload_n dX7_flood_50 rfl ?_
        obtain ⟨y5, hh5, h⟩ := obd_some h
        refine h_cVv [.inl v1, .inl v2, .inl v3] (m_X6_add (by decide) hh5) cw_X7_241 dX7_flood_51 rfl (ok_6 (by decide)) (by decide) rfl (Or.inr rfl) rfl ?_
        refine h_aload_n dX7_flood_54 rfl ?_
        refine h_iconst (4 : Int32) dX7_flood_55 k_iconst_4 ?_
        refine h_iload_n dX7_flood_56 rfl ?_
        refine h_iconst (0 : Int32) dX7_flood_57 k_iconst_0 ?_
        obtain ⟨y6, hh6, h⟩ := obd_some h
        refine h_cVv [.inl (4 : Int32), .inl v1, .inl (0 : Int32)] (m_X7_keepAct  hh6) cw_X7_233 dX7_flood_58 rfl ok_7 (by decide) rfl (Or.inr rfl) rfl ?_
        refine h_aload_n dX7_flood_61 rfl ?_
        refine g_X7_35  dX7_flood_62 ?_
        refine g_X7_128 (by decide) dX7_flood_65 ?_
        refine g_X7_120 (by decide) dX7_flood_68 ?_
        cases h
      · rw [if_neg q3] at h
        exact h_mask [true, false, false, false] (bx_X7_flood_36 X Q  h E)
theorem m_X7_flood {I : Mem} {P : PMem} {O : Nat → Int64} {D : Bool} {n : Nat} {v1 : Int32} {v2 : Int32} {v3 : Int32} {r : (Int32 × Mem)}  (h : f_X7_flood P I v1 v2 v3 = some (Sum.inl r)) : MethR yX7_flood cX7_flood 4 (some .int) 9 [.inr (.inr (7, 0, 0)), .inl v1, .inl v2, .inl v3] I P O D n (some (.inl r.1)) r.2 P O D n := meth_R (Nat.le_refl _) (by decide) rfl (Nat.le_of_ble_eq_true rfl) rfl (fun X Q E => b_X7_flood X Q  h E)
theorem mx_X7_flood {I : Mem} {P : PMem} {O : Nat → Int64} {D : Bool} {n : Nat} {v1 : Int32} {v2 : Int32} {v3 : Int32} {r : Nat}  (h : f_X7_flood P I v1 v2 v3 = some (Sum.inr r)) : MethX yX7_flood cX7_flood 4 (some .int) 9 [.inr (.inr (7, 0, 0)), .inl v1, .inl v2, .inl v3] I P O D n r I P O D (n + 1) := meth_X (Nat.le_succ _) (by decide) rfl (Nat.le_of_ble_eq_true rfl) rfl (fun X Q E => bx_X7_flood X Q  h E)
def f_X7_undo   (I : Mem) : Option (Int32 × Mem) :=
  if (I 6 3 0 3) = 0 then (some ((-1 : Int32), I)) else ((f_X0_takeBackLastAct 0 I).bind fun y1 =>
  bnd (upd4 y1 7 0 0 10 (0 : Int32)) fun I1' =>
  some ((I1' 6 3 0 3), I1'))
theorem b_X7_undo (X : CX) (Q : State → Prop) {I : Mem} {P : PMem} {O : Nat → Int64} {D : Bool} {n : Nat} {r : (Int32 × Mem)}  (h : f_X7_undo I = some r) (E : EndR X cX7_undo RX7 1 (some .int) 4 n (some (.inl r.1)) r.2 P O D Q) : Here X cX7_undo RX7 1 (some .int) 4 n 0 [some (.inr (.inr (7, 0, 0)))] [] I P O D n Q := by
  unfold f_X7_undo at h
  refine h_aload_n dX7_undo_0 rfl ?_
  refine g_X7_35  dX7_undo_1 ?_
  refine g_X7_138 (by decide) dX7_undo_4 ?_
  refine g_X7_120 (by decide) dX7_undo_7 ?_
  refine h_if_ne (tgt := 15) dX7_undo_10 (by decide) (fun q1 => ?_) (fun q1 => ?_)
  · rw [if_neg q1] at h
    refine h_aload_n dX7_undo_15 rfl ?_
    refine g_X7_35  dX7_undo_16 ?_
    obtain ⟨y1, hh1, h⟩ := obd_some h
    refine h_cVv [] (m_X0_takeBackLastAct (by decide) hh1) cw_X7_244 dX7_undo_19 rfl (ok_0 (by decide)) (by decide) rfl (Or.inr rfl) rfl ?_
    refine h_aload_n dX7_undo_22 rfl ?_
    refine h_iconst (0 : Int32) dX7_undo_23 k_iconst_0 ?_
    obtain ⟨I1', e1, h⟩ := bnd_some h
    refine p_X7_94  rfl dX7_undo_24 ?_
    refine h_nmI e1 ?_
    refine h_aload_n dX7_undo_27 rfl ?_
    refine g_X7_35  dX7_undo_28 ?_
    refine g_X7_138 (by decide) dX7_undo_31 ?_
    refine g_X7_120 (by decide) dX7_undo_34 ?_
    cases h
    exact h_iret dX7_undo_37 rfl E
  · rw [if_pos q1] at h
    refine h_iconst (-1 : Int32) dX7_undo_13 k_iconst_m1 ?_
    cases h
    exact h_iret dX7_undo_14 rfl E
theorem m_X7_undo {I : Mem} {P : PMem} {O : Nat → Int64} {D : Bool} {n : Nat}  {r : (Int32 × Mem)}  (h : f_X7_undo I = some r) : MethR yX7_undo cX7_undo 1 (some .int) 4 [.inr (.inr (7, 0, 0))] I P O D n (some (.inl r.1)) r.2 P O D n := meth_R (Nat.le_refl _) (by decide) rfl (Nat.le_of_ble_eq_true rfl) rfl (fun X Q E => b_X7_undo X Q  h E)
