theorem dL_land_0 : decode cL_land 0 = .ok (.aload_n 2, 1) := by decide +kernel
theorem dL_land_1 : decode cL_land 1 = .ok (.iconst 0, 1) := by decide +kernel
theorem dL_land_2 : decode cL_land 2 = .ok (.aload_n 0, 1) := by decide +kernel
theorem dL_land_3 : decode cL_land 3 = .ok (.iload_n 1, 1) := by decide +kernel
theorem dL_land_4 : decode cL_land 4 = .ok (.invokevirtual 7, 3) := by decide +kernel
theorem dL_land_7 : decode cL_land 7 = .ok (.i2l, 1) := by decide +kernel
theorem dL_land_8 : decode cL_land 8 = .ok (.lastore, 1) := by decide +kernel
theorem dL_land_9 : decode cL_land 9 = .ok (.goto 6, 3) := by decide +kernel
theorem dL_land_12 : decode cL_land 12 = .ok (.astore_n 3, 1) := by decide +kernel
theorem dL_land_13 : decode cL_land 13 = .ok (.iconst 1, 1) := by decide +kernel
theorem dL_land_14 : decode cL_land 14 = .ok (.ireturn, 1) := by decide +kernel
theorem dL_land_15 : decode cL_land 15 = .ok (.iconst 0, 1) := by decide +kernel
theorem dL_land_16 : decode cL_land 16 = .ok (.ireturn, 1) := by decide +kernel
theorem dL_count_0 : decode cL_count 0 = .ok (.aload_n 2, 1) := by decide +kernel
theorem dL_count_1 : decode cL_count 1 = .ok (.iconst 0, 1) := by decide +kernel
theorem dL_count_2 : decode cL_count 2 = .ok (.aload_n 0, 1) := by decide +kernel
theorem dL_count_3 : decode cL_count 3 = .ok (.iload_n 1, 1) := by decide +kernel
theorem dL_count_4 : decode cL_count 4 = .ok (.invokevirtual 15, 3) := by decide +kernel
theorem dL_count_7 : decode cL_count 7 = .ok (.i2l, 1) := by decide +kernel
theorem dL_count_8 : decode cL_count 8 = .ok (.lastore, 1) := by decide +kernel
theorem dL_count_9 : decode cL_count 9 = .ok (.goto 6, 3) := by decide +kernel
theorem dL_count_12 : decode cL_count 12 = .ok (.astore_n 3, 1) := by decide +kernel
theorem dL_count_13 : decode cL_count 13 = .ok (.iconst 1, 1) := by decide +kernel
theorem dL_count_14 : decode cL_count 14 = .ok (.ireturn, 1) := by decide +kernel
theorem dL_count_15 : decode cL_count 15 = .ok (.iconst 0, 1) := by decide +kernel
theorem dL_count_16 : decode cL_count 16 = .ok (.ireturn, 1) := by decide +kernel
theorem dL_far_0 : decode cL_far 0 = .ok (.aload 4, 2) := by decide +kernel
theorem dL_far_2 : decode cL_far 2 = .ok (.iconst 0, 1) := by decide +kernel
theorem dL_far_3 : decode cL_far 3 = .ok (.aload_n 0, 1) := by decide +kernel
theorem dL_far_4 : decode cL_far 4 = .ok (.iload_n 1, 1) := by decide +kernel
theorem dL_far_5 : decode cL_far 5 = .ok (.iload_n 2, 1) := by decide +kernel
theorem dL_far_6 : decode cL_far 6 = .ok (.iload_n 3, 1) := by decide +kernel
theorem dL_far_7 : decode cL_far 7 = .ok (.invokevirtual 20, 3) := by decide +kernel
theorem dL_far_10 : decode cL_far 10 = .ok (.i2l, 1) := by decide +kernel
theorem dL_far_11 : decode cL_far 11 = .ok (.lastore, 1) := by decide +kernel
theorem dL_far_12 : decode cL_far 12 = .ok (.goto 7, 3) := by decide +kernel
theorem dL_far_15 : decode cL_far 15 = .ok (.astore 5, 2) := by decide +kernel
theorem dL_far_17 : decode cL_far 17 = .ok (.iconst 1, 1) := by decide +kernel
theorem dL_far_18 : decode cL_far 18 = .ok (.ireturn, 1) := by decide +kernel
theorem dL_far_19 : decode cL_far 19 = .ok (.iconst 0, 1) := by decide +kernel
theorem dL_far_20 : decode cL_far 20 = .ok (.ireturn, 1) := by decide +kernel
theorem dL_judge_0 : decode cL_judge 0 = .ok (.aload_n 3, 1) := by decide +kernel
theorem dL_judge_1 : decode cL_judge 1 = .ok (.iconst 0, 1) := by decide +kernel
theorem dL_judge_2 : decode cL_judge 2 = .ok (.aload_n 0, 1) := by decide +kernel
theorem dL_judge_3 : decode cL_judge 3 = .ok (.iload_n 1, 1) := by decide +kernel
theorem dL_judge_4 : decode cL_judge 4 = .ok (.iload_n 2, 1) := by decide +kernel
theorem dL_judge_5 : decode cL_judge 5 = .ok (.invokevirtual 24, 3) := by decide +kernel
theorem dL_judge_8 : decode cL_judge 8 = .ok (.i2l, 1) := by decide +kernel
theorem dL_judge_9 : decode cL_judge 9 = .ok (.lastore, 1) := by decide +kernel
theorem dL_judge_10 : decode cL_judge 10 = .ok (.goto 7, 3) := by decide +kernel
theorem dL_judge_13 : decode cL_judge 13 = .ok (.astore 4, 2) := by decide +kernel
theorem dL_judge_15 : decode cL_judge 15 = .ok (.iconst 1, 1) := by decide +kernel
theorem dL_judge_16 : decode cL_judge 16 = .ok (.ireturn, 1) := by decide +kernel
theorem dL_judge_17 : decode cL_judge 17 = .ok (.iconst 0, 1) := by decide +kernel
theorem dL_judge_18 : decode cL_judge 18 = .ok (.ireturn, 1) := by decide +kernel
theorem dL_stop_0 : decode cL_stop 0 = .ok (.aload 4, 2) := by decide +kernel
theorem dL_stop_2 : decode cL_stop 2 = .ok (.iconst 0, 1) := by decide +kernel
theorem dL_stop_3 : decode cL_stop 3 = .ok (.aload_n 0, 1) := by decide +kernel
theorem dL_stop_4 : decode cL_stop 4 = .ok (.iload_n 1, 1) := by decide +kernel
theorem dL_stop_5 : decode cL_stop 5 = .ok (.iload_n 2, 1) := by decide +kernel
theorem dL_stop_6 : decode cL_stop 6 = .ok (.iload_n 3, 1) := by decide +kernel
theorem dL_stop_7 : decode cL_stop 7 = .ok (.invokevirtual 28, 3) := by decide +kernel
theorem dL_stop_10 : decode cL_stop 10 = .ok (.i2l, 1) := by decide +kernel
theorem dL_stop_11 : decode cL_stop 11 = .ok (.lastore, 1) := by decide +kernel
theorem dL_stop_12 : decode cL_stop 12 = .ok (.goto 7, 3) := by decide +kernel
theorem dL_stop_15 : decode cL_stop 15 = .ok (.astore 5, 2) := by decide +kernel
theorem dL_stop_17 : decode cL_stop 17 = .ok (.iconst 1, 1) := by decide +kernel
theorem dL_stop_18 : decode cL_stop 18 = .ok (.ireturn, 1) := by decide +kernel
theorem dL_stop_19 : decode cL_stop 19 = .ok (.iconst 0, 1) := by decide +kernel
theorem dL_stop_20 : decode cL_stop 20 = .ok (.ireturn, 1) := by decide +kernel
theorem dL_where_0 : decode cL_where 0 = .ok (.aload_n 3, 1) := by decide +kernel
theorem dL_where_1 : decode cL_where 1 = .ok (.iconst 0, 1) := by decide +kernel
theorem dL_where_2 : decode cL_where 2 = .ok (.aload_n 0, 1) := by decide +kernel
theorem dL_where_3 : decode cL_where 3 = .ok (.iload_n 1, 1) := by decide +kernel
theorem dL_where_4 : decode cL_where 4 = .ok (.iload_n 2, 1) := by decide +kernel
theorem dL_where_5 : decode cL_where 5 = .ok (.invokevirtual 31, 3) := by decide +kernel
theorem dL_where_8 : decode cL_where 8 = .ok (.i2l, 1) := by decide +kernel
theorem dL_where_9 : decode cL_where 9 = .ok (.lastore, 1) := by decide +kernel
theorem dL_where_10 : decode cL_where 10 = .ok (.goto 7, 3) := by decide +kernel
theorem dL_where_13 : decode cL_where 13 = .ok (.astore 4, 2) := by decide +kernel
theorem dL_where_15 : decode cL_where 15 = .ok (.iconst 1, 1) := by decide +kernel
theorem dL_where_16 : decode cL_where 16 = .ok (.ireturn, 1) := by decide +kernel
theorem dL_where_17 : decode cL_where 17 = .ok (.iconst 0, 1) := by decide +kernel
theorem dL_where_18 : decode cL_where 18 = .ok (.ireturn, 1) := by decide +kernel
theorem dL_proof_0 : decode cL_proof 0 = .ok (.aload_n 3, 1) := by decide +kernel
theorem dL_proof_1 : decode cL_proof 1 = .ok (.iconst 0, 1) := by decide +kernel
theorem dL_proof_2 : decode cL_proof 2 = .ok (.aload_n 0, 1) := by decide +kernel
theorem dL_proof_3 : decode cL_proof 3 = .ok (.iload_n 1, 1) := by decide +kernel
theorem dL_proof_4 : decode cL_proof 4 = .ok (.iload_n 2, 1) := by decide +kernel
theorem dL_proof_5 : decode cL_proof 5 = .ok (.invokevirtual 34, 3) := by decide +kernel
theorem dL_proof_8 : decode cL_proof 8 = .ok (.i2l, 1) := by decide +kernel
theorem dL_proof_9 : decode cL_proof 9 = .ok (.lastore, 1) := by decide +kernel
theorem dL_proof_10 : decode cL_proof 10 = .ok (.goto 7, 3) := by decide +kernel
theorem dL_proof_13 : decode cL_proof 13 = .ok (.astore 4, 2) := by decide +kernel
theorem dL_proof_15 : decode cL_proof 15 = .ok (.iconst 1, 1) := by decide +kernel
theorem dL_proof_16 : decode cL_proof 16 = .ok (.ireturn, 1) := by decide +kernel
theorem dL_proof_17 : decode cL_proof 17 = .ok (.iconst 0, 1) := by decide +kernel
theorem dL_proof_18 : decode cL_proof 18 = .ok (.ireturn, 1) := by decide +kernel
theorem dL_said_0 : decode cL_said 0 = .ok (.aload 4, 2) := by decide +kernel
theorem dL_said_2 : decode cL_said 2 = .ok (.iconst 0, 1) := by decide +kernel
theorem dL_said_3 : decode cL_said 3 = .ok (.aload_n 0, 1) := by decide +kernel
theorem dL_said_4 : decode cL_said 4 = .ok (.iload_n 1, 1) := by decide +kernel
theorem dL_said_5 : decode cL_said 5 = .ok (.iload_n 2, 1) := by decide +kernel
theorem dL_said_6 : decode cL_said 6 = .ok (.iload_n 3, 1) := by decide +kernel
theorem dL_said_7 : decode cL_said 7 = .ok (.invokevirtual 37, 3) := by decide +kernel
theorem dL_said_10 : decode cL_said 10 = .ok (.i2l, 1) := by decide +kernel
theorem dL_said_11 : decode cL_said 11 = .ok (.lastore, 1) := by decide +kernel
theorem dL_said_12 : decode cL_said 12 = .ok (.goto 7, 3) := by decide +kernel
theorem dL_said_15 : decode cL_said 15 = .ok (.astore 5, 2) := by decide +kernel
theorem dL_said_17 : decode cL_said 17 = .ok (.iconst 1, 1) := by decide +kernel
theorem dL_said_18 : decode cL_said 18 = .ok (.ireturn, 1) := by decide +kernel
theorem dL_said_19 : decode cL_said 19 = .ok (.iconst 0, 1) := by decide +kernel
theorem dL_said_20 : decode cL_said 20 = .ok (.ireturn, 1) := by decide +kernel
theorem dL_met_0 : decode cL_met 0 = .ok (.aload_n 3, 1) := by decide +kernel
theorem dL_met_1 : decode cL_met 1 = .ok (.iconst 0, 1) := by decide +kernel
theorem dL_met_2 : decode cL_met 2 = .ok (.aload_n 0, 1) := by decide +kernel
theorem dL_met_3 : decode cL_met 3 = .ok (.iload_n 1, 1) := by decide +kernel
theorem dL_met_4 : decode cL_met 4 = .ok (.iload_n 2, 1) := by decide +kernel
theorem dL_met_5 : decode cL_met 5 = .ok (.invokevirtual 40, 3) := by decide +kernel
theorem dL_met_8 : decode cL_met 8 = .ok (.i2l, 1) := by decide +kernel
theorem dL_met_9 : decode cL_met 9 = .ok (.lastore, 1) := by decide +kernel
theorem dL_met_10 : decode cL_met 10 = .ok (.goto 11, 3) := by decide +kernel
theorem dL_met_13 : decode cL_met 13 = .ok (.astore 4, 2) := by decide +kernel
theorem dL_met_15 : decode cL_met 15 = .ok (.iconst 1, 1) := by decide +kernel
theorem dL_met_16 : decode cL_met 16 = .ok (.ireturn, 1) := by decide +kernel
theorem dL_met_17 : decode cL_met 17 = .ok (.astore 4, 2) := by decide +kernel
theorem dL_met_19 : decode cL_met 19 = .ok (.iconst 2, 1) := by decide +kernel
theorem dL_met_20 : decode cL_met 20 = .ok (.ireturn, 1) := by decide +kernel
theorem dL_met_21 : decode cL_met 21 = .ok (.iconst 0, 1) := by decide +kernel
theorem dL_met_22 : decode cL_met 22 = .ok (.ireturn, 1) := by decide +kernel
theorem dL_guilty_0 : decode cL_guilty 0 = .ok (.aload_n 3, 1) := by decide +kernel
theorem dL_guilty_1 : decode cL_guilty 1 = .ok (.iconst 0, 1) := by decide +kernel
theorem dL_guilty_2 : decode cL_guilty 2 = .ok (.aload_n 0, 1) := by decide +kernel
theorem dL_guilty_3 : decode cL_guilty 3 = .ok (.iload_n 1, 1) := by decide +kernel
theorem dL_guilty_4 : decode cL_guilty 4 = .ok (.iload_n 2, 1) := by decide +kernel
theorem dL_guilty_5 : decode cL_guilty 5 = .ok (.invokevirtual 43, 3) := by decide +kernel
theorem dL_guilty_8 : decode cL_guilty 8 = .ok (.i2l, 1) := by decide +kernel
theorem dL_guilty_9 : decode cL_guilty 9 = .ok (.lastore, 1) := by decide +kernel
theorem dL_guilty_10 : decode cL_guilty 10 = .ok (.goto 7, 3) := by decide +kernel
theorem dL_guilty_13 : decode cL_guilty 13 = .ok (.astore 4, 2) := by decide +kernel
theorem dL_guilty_15 : decode cL_guilty 15 = .ok (.iconst 1, 1) := by decide +kernel
theorem dL_guilty_16 : decode cL_guilty 16 = .ok (.ireturn, 1) := by decide +kernel
theorem dL_guilty_17 : decode cL_guilty 17 = .ok (.iconst 0, 1) := by decide +kernel
theorem dL_guilty_18 : decode cL_guilty 18 = .ok (.ireturn, 1) := by decide +kernel
theorem dL_news_0 : decode cL_news 0 = .ok (.aload_n 3, 1) := by decide +kernel
theorem dL_news_1 : decode cL_news 1 = .ok (.iconst 0, 1) := by decide +kernel
theorem dL_news_2 : decode cL_news 2 = .ok (.aload_n 0, 1) := by decide +kernel
theorem dL_news_3 : decode cL_news 3 = .ok (.iload_n 1, 1) := by decide +kernel
theorem dL_news_4 : decode cL_news 4 = .ok (.iload_n 2, 1) := by decide +kernel
theorem dL_news_5 : decode cL_news 5 = .ok (.invokevirtual 46, 3) := by decide +kernel
theorem dL_news_8 : decode cL_news 8 = .ok (.i2l, 1) := by decide +kernel
theorem dL_news_9 : decode cL_news 9 = .ok (.lastore, 1) := by decide +kernel
theorem dL_news_10 : decode cL_news 10 = .ok (.goto 7, 3) := by decide +kernel
theorem dL_news_13 : decode cL_news 13 = .ok (.astore 4, 2) := by decide +kernel
theorem dL_news_15 : decode cL_news 15 = .ok (.iconst 1, 1) := by decide +kernel
theorem dL_news_16 : decode cL_news 16 = .ok (.ireturn, 1) := by decide +kernel
theorem dL_news_17 : decode cL_news 17 = .ok (.iconst 0, 1) := by decide +kernel
theorem dL_news_18 : decode cL_news 18 = .ok (.ireturn, 1) := by decide +kernel
theorem dL_start_0 : decode cL_start 0 = .ok (.aload_n 3, 1) := by decide +kernel
theorem dL_start_1 : decode cL_start 1 = .ok (.iconst 0, 1) := by decide +kernel
theorem dL_start_2 : decode cL_start 2 = .ok (.aload_n 0, 1) := by decide +kernel
theorem dL_start_3 : decode cL_start 3 = .ok (.iload_n 1, 1) := by decide +kernel
theorem dL_start_4 : decode cL_start 4 = .ok (.iload_n 2, 1) := by decide +kernel
theorem dL_start_5 : decode cL_start 5 = .ok (.invokevirtual 49, 3) := by decide +kernel
theorem dL_start_8 : decode cL_start 8 = .ok (.i2l, 1) := by decide +kernel
theorem dL_start_9 : decode cL_start 9 = .ok (.lastore, 1) := by decide +kernel
theorem dL_start_10 : decode cL_start 10 = .ok (.goto 7, 3) := by decide +kernel
theorem dL_start_13 : decode cL_start 13 = .ok (.astore 4, 2) := by decide +kernel
theorem dL_start_15 : decode cL_start 15 = .ok (.iconst 1, 1) := by decide +kernel
theorem dL_start_16 : decode cL_start 16 = .ok (.ireturn, 1) := by decide +kernel
theorem dL_start_17 : decode cL_start 17 = .ok (.iconst 0, 1) := by decide +kernel
theorem dL_start_18 : decode cL_start 18 = .ok (.ireturn, 1) := by decide +kernel
theorem dL_inn_0 : decode cL_inn 0 = .ok (.aload_n 3, 1) := by decide +kernel
theorem dL_inn_1 : decode cL_inn 1 = .ok (.iconst 0, 1) := by decide +kernel
theorem dL_inn_2 : decode cL_inn 2 = .ok (.aload_n 0, 1) := by decide +kernel
theorem dL_inn_3 : decode cL_inn 3 = .ok (.iload_n 1, 1) := by decide +kernel
theorem dL_inn_4 : decode cL_inn 4 = .ok (.iload_n 2, 1) := by decide +kernel
theorem dL_inn_5 : decode cL_inn 5 = .ok (.invokevirtual 52, 3) := by decide +kernel
theorem dL_inn_8 : decode cL_inn 8 = .ok (.ifCond .eq 7, 3) := by decide +kernel
theorem dL_inn_11 : decode cL_inn 11 = .ok (.lconst 1, 1) := by decide +kernel
theorem dL_inn_12 : decode cL_inn 12 = .ok (.goto 4, 3) := by decide +kernel
theorem dL_inn_15 : decode cL_inn 15 = .ok (.lconst 0, 1) := by decide +kernel
theorem dL_inn_16 : decode cL_inn 16 = .ok (.lastore, 1) := by decide +kernel
theorem dL_inn_17 : decode cL_inn 17 = .ok (.goto 7, 3) := by decide +kernel
theorem dL_inn_20 : decode cL_inn 20 = .ok (.astore 4, 2) := by decide +kernel
theorem dL_inn_22 : decode cL_inn 22 = .ok (.iconst 1, 1) := by decide +kernel
theorem dL_inn_23 : decode cL_inn 23 = .ok (.ireturn, 1) := by decide +kernel
theorem dL_inn_24 : decode cL_inn 24 = .ok (.iconst 0, 1) := by decide +kernel
theorem dL_inn_25 : decode cL_inn 25 = .ok (.ireturn, 1) := by decide +kernel
theorem dL_word_0 : decode cL_word 0 = .ok (.aload 4, 2) := by decide +kernel
theorem dL_word_2 : decode cL_word 2 = .ok (.iconst 0, 1) := by decide +kernel
theorem dL_word_3 : decode cL_word 3 = .ok (.aload_n 0, 1) := by decide +kernel
theorem dL_word_4 : decode cL_word 4 = .ok (.iload_n 1, 1) := by decide +kernel
theorem dL_word_5 : decode cL_word 5 = .ok (.iload_n 2, 1) := by decide +kernel
theorem dL_word_6 : decode cL_word 6 = .ok (.iload_n 3, 1) := by decide +kernel
theorem dL_word_7 : decode cL_word 7 = .ok (.invokevirtual 56, 3) := by decide +kernel
theorem dL_word_10 : decode cL_word 10 = .ok (.i2l, 1) := by decide +kernel
theorem dL_word_11 : decode cL_word 11 = .ok (.lastore, 1) := by decide +kernel
theorem dL_word_12 : decode cL_word 12 = .ok (.goto 7, 3) := by decide +kernel
theorem dL_word_15 : decode cL_word 15 = .ok (.astore 5, 2) := by decide +kernel
theorem dL_word_17 : decode cL_word 17 = .ok (.iconst 1, 1) := by decide +kernel
theorem dL_word_18 : decode cL_word 18 = .ok (.ireturn, 1) := by decide +kernel
theorem dL_word_19 : decode cL_word 19 = .ok (.iconst 0, 1) := by decide +kernel
theorem dL_word_20 : decode cL_word 20 = .ok (.ireturn, 1) := by decide +kernel
theorem dL_feast_0 : decode cL_feast 0 = .ok (.aload 4, 2) := by decide +kernel
theorem dL_feast_2 : decode cL_feast 2 = .ok (.iconst 0, 1) := by decide +kernel
theorem dL_feast_3 : decode cL_feast 3 = .ok (.aload_n 0, 1) := by decide +kernel
theorem dL_feast_4 : decode cL_feast 4 = .ok (.iload_n 1, 1) := by decide +kernel
theorem dL_feast_5 : decode cL_feast 5 = .ok (.iload_n 2, 1) := by decide +kernel
theorem dL_feast_6 : decode cL_feast 6 = .ok (.iload_n 3, 1) := by decide +kernel
theorem dL_feast_7 : decode cL_feast 7 = .ok (.invokevirtual 59, 3) := by decide +kernel
theorem dL_feast_10 : decode cL_feast 10 = .ok (.i2l, 1) := by decide +kernel
theorem dL_feast_11 : decode cL_feast 11 = .ok (.lastore, 1) := by decide +kernel
theorem dL_feast_12 : decode cL_feast 12 = .ok (.goto 7, 3) := by decide +kernel
theorem dL_feast_15 : decode cL_feast 15 = .ok (.astore 5, 2) := by decide +kernel
theorem dL_feast_17 : decode cL_feast 17 = .ok (.iconst 1, 1) := by decide +kernel
theorem dL_feast_18 : decode cL_feast 18 = .ok (.ireturn, 1) := by decide +kernel
theorem dL_feast_19 : decode cL_feast 19 = .ok (.iconst 0, 1) := by decide +kernel
theorem dL_feast_20 : decode cL_feast 20 = .ok (.ireturn, 1) := by decide +kernel
theorem dL_flood_0 : decode cL_flood 0 = .ok (.aload 4, 2) := by decide +kernel
theorem dL_flood_2 : decode cL_flood 2 = .ok (.iconst 0, 1) := by decide +kernel
theorem dL_flood_3 : decode cL_flood 3 = .ok (.aload_n 0, 1) := by decide +kernel
theorem dL_flood_4 : decode cL_flood 4 = .ok (.iload_n 1, 1) := by decide +kernel
theorem dL_flood_5 : decode cL_flood 5 = .ok (.iload_n 2, 1) := by decide +kernel
theorem dL_flood_6 : decode cL_flood 6 = .ok (.iload_n 3, 1) := by decide +kernel
theorem dL_flood_7 : decode cL_flood 7 = .ok (.invokevirtual 62, 3) := by decide +kernel
theorem dL_flood_10 : decode cL_flood 10 = .ok (.i2l, 1) := by decide +kernel
theorem dL_flood_11 : decode cL_flood 11 = .ok (.lastore, 1) := by decide +kernel
theorem dL_flood_12 : decode cL_flood 12 = .ok (.goto 7, 3) := by decide +kernel
theorem dL_flood_15 : decode cL_flood 15 = .ok (.astore 5, 2) := by decide +kernel
theorem dL_flood_17 : decode cL_flood 17 = .ok (.iconst 1, 1) := by decide +kernel
theorem dL_flood_18 : decode cL_flood 18 = .ok (.ireturn, 1) := by decide +kernel
theorem dL_flood_19 : decode cL_flood 19 = .ok (.iconst 0, 1) := by decide +kernel
theorem dL_flood_20 : decode cL_flood 20 = .ok (.ireturn, 1) := by decide +kernel
theorem dL_burn_0 : decode cL_burn 0 = .ok (.aload_n 2, 1) := by decide +kernel
theorem dL_burn_1 : decode cL_burn 1 = .ok (.iconst 0, 1) := by decide +kernel
theorem dL_burn_2 : decode cL_burn 2 = .ok (.aload_n 0, 1) := by decide +kernel
theorem dL_burn_3 : decode cL_burn 3 = .ok (.iload_n 1, 1) := by decide +kernel
theorem dL_burn_4 : decode cL_burn 4 = .ok (.invokevirtual 65, 3) := by decide +kernel
theorem dL_burn_7 : decode cL_burn 7 = .ok (.i2l, 1) := by decide +kernel
theorem dL_burn_8 : decode cL_burn 8 = .ok (.lastore, 1) := by decide +kernel
theorem dL_burn_9 : decode cL_burn 9 = .ok (.goto 6, 3) := by decide +kernel
theorem dL_burn_12 : decode cL_burn 12 = .ok (.astore_n 3, 1) := by decide +kernel
theorem dL_burn_13 : decode cL_burn 13 = .ok (.iconst 1, 1) := by decide +kernel
theorem dL_burn_14 : decode cL_burn 14 = .ok (.ireturn, 1) := by decide +kernel
theorem dL_burn_15 : decode cL_burn 15 = .ok (.iconst 0, 1) := by decide +kernel
theorem dL_burn_16 : decode cL_burn 16 = .ok (.ireturn, 1) := by decide +kernel
theorem dL_when_0 : decode cL_when 0 = .ok (.aload_n 3, 1) := by decide +kernel
theorem dL_when_1 : decode cL_when 1 = .ok (.iconst 0, 1) := by decide +kernel
theorem dL_when_2 : decode cL_when 2 = .ok (.aload_n 0, 1) := by decide +kernel
theorem dL_when_3 : decode cL_when 3 = .ok (.iload_n 1, 1) := by decide +kernel
theorem dL_when_4 : decode cL_when 4 = .ok (.iload_n 2, 1) := by decide +kernel
theorem dL_when_5 : decode cL_when 5 = .ok (.invokevirtual 68, 3) := by decide +kernel
theorem dL_when_8 : decode cL_when 8 = .ok (.i2l, 1) := by decide +kernel
theorem dL_when_9 : decode cL_when 9 = .ok (.lastore, 1) := by decide +kernel
theorem dL_when_10 : decode cL_when 10 = .ok (.goto 7, 3) := by decide +kernel
theorem dL_when_13 : decode cL_when 13 = .ok (.astore 4, 2) := by decide +kernel
theorem dL_when_15 : decode cL_when 15 = .ok (.iconst 1, 1) := by decide +kernel
theorem dL_when_16 : decode cL_when 16 = .ok (.ireturn, 1) := by decide +kernel
theorem dL_when_17 : decode cL_when 17 = .ok (.iconst 0, 1) := by decide +kernel
theorem dL_when_18 : decode cL_when 18 = .ok (.ireturn, 1) := by decide +kernel
theorem dL_round_0 : decode cL_round 0 = .ok (.aload_n 2, 1) := by decide +kernel
theorem dL_round_1 : decode cL_round 1 = .ok (.iconst 0, 1) := by decide +kernel
theorem dL_round_2 : decode cL_round 2 = .ok (.aload_n 0, 1) := by decide +kernel
theorem dL_round_3 : decode cL_round 3 = .ok (.iload_n 1, 1) := by decide +kernel
theorem dL_round_4 : decode cL_round 4 = .ok (.invokevirtual 71, 3) := by decide +kernel
theorem dL_round_7 : decode cL_round 7 = .ok (.i2l, 1) := by decide +kernel
theorem dL_round_8 : decode cL_round 8 = .ok (.lastore, 1) := by decide +kernel
theorem dL_round_9 : decode cL_round 9 = .ok (.goto 6, 3) := by decide +kernel
theorem dL_round_12 : decode cL_round 12 = .ok (.astore_n 3, 1) := by decide +kernel
theorem dL_round_13 : decode cL_round 13 = .ok (.iconst 1, 1) := by decide +kernel
theorem dL_round_14 : decode cL_round 14 = .ok (.ireturn, 1) := by decide +kernel
theorem dL_round_15 : decode cL_round 15 = .ok (.iconst 0, 1) := by decide +kernel
theorem dL_round_16 : decode cL_round 16 = .ok (.ireturn, 1) := by decide +kernel
theorem dL_free_0 : decode cL_free 0 = .ok (.aload_n 3, 1) := by decide +kernel
theorem dL_free_1 : decode cL_free 1 = .ok (.iconst 0, 1) := by decide +kernel
theorem dL_free_2 : decode cL_free 2 = .ok (.aload_n 0, 1) := by decide +kernel
theorem dL_free_3 : decode cL_free 3 = .ok (.iload_n 1, 1) := by decide +kernel
theorem dL_free_4 : decode cL_free 4 = .ok (.iload_n 2, 1) := by decide +kernel
theorem dL_free_5 : decode cL_free 5 = .ok (.invokevirtual 74, 3) := by decide +kernel
theorem dL_free_8 : decode cL_free 8 = .ok (.i2l, 1) := by decide +kernel
theorem dL_free_9 : decode cL_free 9 = .ok (.lastore, 1) := by decide +kernel
theorem dL_free_10 : decode cL_free 10 = .ok (.goto 7, 3) := by decide +kernel
theorem dL_free_13 : decode cL_free 13 = .ok (.astore 4, 2) := by decide +kernel
theorem dL_free_15 : decode cL_free 15 = .ok (.iconst 1, 1) := by decide +kernel
theorem dL_free_16 : decode cL_free 16 = .ok (.ireturn, 1) := by decide +kernel
theorem dL_free_17 : decode cL_free 17 = .ok (.iconst 0, 1) := by decide +kernel
theorem dL_free_18 : decode cL_free 18 = .ok (.ireturn, 1) := by decide +kernel
theorem dL_mercy_0 : decode cL_mercy 0 = .ok (.aload_n 2, 1) := by decide +kernel
theorem dL_mercy_1 : decode cL_mercy 1 = .ok (.iconst 0, 1) := by decide +kernel
theorem dL_mercy_2 : decode cL_mercy 2 = .ok (.aload_n 0, 1) := by decide +kernel
theorem dL_mercy_3 : decode cL_mercy 3 = .ok (.iload_n 1, 1) := by decide +kernel
theorem dL_mercy_4 : decode cL_mercy 4 = .ok (.invokevirtual 77, 3) := by decide +kernel
theorem dL_mercy_7 : decode cL_mercy 7 = .ok (.i2l, 1) := by decide +kernel
theorem dL_mercy_8 : decode cL_mercy 8 = .ok (.lastore, 1) := by decide +kernel
theorem dL_mercy_9 : decode cL_mercy 9 = .ok (.goto 6, 3) := by decide +kernel
theorem dL_mercy_12 : decode cL_mercy 12 = .ok (.astore_n 3, 1) := by decide +kernel
theorem dL_mercy_13 : decode cL_mercy 13 = .ok (.iconst 1, 1) := by decide +kernel
theorem dL_mercy_14 : decode cL_mercy 14 = .ok (.ireturn, 1) := by decide +kernel
theorem dL_mercy_15 : decode cL_mercy 15 = .ok (.iconst 0, 1) := by decide +kernel
theorem dL_mercy_16 : decode cL_mercy 16 = .ok (.ireturn, 1) := by decide +kernel
theorem dL_deaf_0 : decode cL_deaf 0 = .ok (.aload_n 2, 1) := by decide +kernel
theorem dL_deaf_1 : decode cL_deaf 1 = .ok (.iconst 0, 1) := by decide +kernel
theorem dL_deaf_2 : decode cL_deaf 2 = .ok (.aload_n 0, 1) := by decide +kernel
theorem dL_deaf_3 : decode cL_deaf 3 = .ok (.iload_n 1, 1) := by decide +kernel
theorem dL_deaf_4 : decode cL_deaf 4 = .ok (.invokevirtual 80, 3) := by decide +kernel
theorem dL_deaf_7 : decode cL_deaf 7 = .ok (.i2l, 1) := by decide +kernel
theorem dL_deaf_8 : decode cL_deaf 8 = .ok (.lastore, 1) := by decide +kernel
theorem dL_deaf_9 : decode cL_deaf 9 = .ok (.goto 6, 3) := by decide +kernel
theorem dL_deaf_12 : decode cL_deaf 12 = .ok (.astore_n 3, 1) := by decide +kernel
theorem dL_deaf_13 : decode cL_deaf 13 = .ok (.iconst 1, 1) := by decide +kernel
theorem dL_deaf_14 : decode cL_deaf 14 = .ok (.ireturn, 1) := by decide +kernel
theorem dL_deaf_15 : decode cL_deaf 15 = .ok (.iconst 0, 1) := by decide +kernel
theorem dL_deaf_16 : decode cL_deaf 16 = .ok (.ireturn, 1) := by decide +kernel
theorem dL_soonest_0 : decode cL_soonest 0 = .ok (.aload_n 2, 1) := by decide +kernel
theorem dL_soonest_1 : decode cL_soonest 1 = .ok (.iconst 0, 1) := by decide +kernel
theorem dL_soonest_2 : decode cL_soonest 2 = .ok (.aload_n 0, 1) := by decide +kernel
theorem dL_soonest_3 : decode cL_soonest 3 = .ok (.iload_n 1, 1) := by decide +kernel
theorem dL_soonest_4 : decode cL_soonest 4 = .ok (.invokevirtual 83, 3) := by decide +kernel
theorem dL_soonest_7 : decode cL_soonest 7 = .ok (.i2l, 1) := by decide +kernel
theorem dL_soonest_8 : decode cL_soonest 8 = .ok (.lastore, 1) := by decide +kernel
theorem dL_soonest_9 : decode cL_soonest 9 = .ok (.goto 6, 3) := by decide +kernel
theorem dL_soonest_12 : decode cL_soonest 12 = .ok (.astore_n 3, 1) := by decide +kernel
theorem dL_soonest_13 : decode cL_soonest 13 = .ok (.iconst 1, 1) := by decide +kernel
theorem dL_soonest_14 : decode cL_soonest 14 = .ok (.ireturn, 1) := by decide +kernel
theorem dL_soonest_15 : decode cL_soonest 15 = .ok (.iconst 0, 1) := by decide +kernel
theorem dL_soonest_16 : decode cL_soonest 16 = .ok (.ireturn, 1) := by decide +kernel
theorem dL_see_0 : decode cL_see 0 = .ok (.aload 4, 2) := by decide +kernel
theorem dL_see_2 : decode cL_see 2 = .ok (.iconst 0, 1) := by decide +kernel
theorem dL_see_3 : decode cL_see 3 = .ok (.aload_n 0, 1) := by decide +kernel
theorem dL_see_4 : decode cL_see 4 = .ok (.iload_n 1, 1) := by decide +kernel
theorem dL_see_5 : decode cL_see 5 = .ok (.iload_n 2, 1) := by decide +kernel
theorem dL_see_6 : decode cL_see 6 = .ok (.iload_n 3, 1) := by decide +kernel
theorem dL_see_7 : decode cL_see 7 = .ok (.invokevirtual 86, 3) := by decide +kernel
theorem dL_see_10 : decode cL_see 10 = .ok (.i2l, 1) := by decide +kernel
theorem dL_see_11 : decode cL_see 11 = .ok (.lastore, 1) := by decide +kernel
theorem dL_see_12 : decode cL_see 12 = .ok (.goto 7, 3) := by decide +kernel
theorem dL_see_15 : decode cL_see 15 = .ok (.astore 5, 2) := by decide +kernel
theorem dL_see_17 : decode cL_see 17 = .ok (.iconst 1, 1) := by decide +kernel
theorem dL_see_18 : decode cL_see 18 = .ok (.ireturn, 1) := by decide +kernel
theorem dL_see_19 : decode cL_see 19 = .ok (.iconst 0, 1) := by decide +kernel
theorem dL_see_20 : decode cL_see 20 = .ok (.ireturn, 1) := by decide +kernel
theorem dL_sent_0 : decode cL_sent 0 = .ok (.aload_n 3, 1) := by decide +kernel
theorem dL_sent_1 : decode cL_sent 1 = .ok (.iconst 0, 1) := by decide +kernel
theorem dL_sent_2 : decode cL_sent 2 = .ok (.aload_n 0, 1) := by decide +kernel
theorem dL_sent_3 : decode cL_sent 3 = .ok (.iload_n 1, 1) := by decide +kernel
theorem dL_sent_4 : decode cL_sent 4 = .ok (.iload_n 2, 1) := by decide +kernel
theorem dL_sent_5 : decode cL_sent 5 = .ok (.invokevirtual 90, 3) := by decide +kernel
theorem dL_sent_8 : decode cL_sent 8 = .ok (.i2l, 1) := by decide +kernel
theorem dL_sent_9 : decode cL_sent 9 = .ok (.lastore, 1) := by decide +kernel
theorem dL_sent_10 : decode cL_sent 10 = .ok (.goto 7, 3) := by decide +kernel
theorem dL_sent_13 : decode cL_sent 13 = .ok (.astore 4, 2) := by decide +kernel
theorem dL_sent_15 : decode cL_sent 15 = .ok (.iconst 1, 1) := by decide +kernel
theorem dL_sent_16 : decode cL_sent 16 = .ok (.ireturn, 1) := by decide +kernel
theorem dL_sent_17 : decode cL_sent 17 = .ok (.iconst 0, 1) := by decide +kernel
theorem dL_sent_18 : decode cL_sent 18 = .ok (.ireturn, 1) := by decide +kernel
theorem dL_game_0 : decode cL_game 0 = .ok (.aload_n 3, 1) := by decide +kernel
theorem dL_game_1 : decode cL_game 1 = .ok (.iconst 0, 1) := by decide +kernel
theorem dL_game_2 : decode cL_game 2 = .ok (.aload_n 0, 1) := by decide +kernel
theorem dL_game_3 : decode cL_game 3 = .ok (.iload_n 1, 1) := by decide +kernel
theorem dL_game_4 : decode cL_game 4 = .ok (.iload_n 2, 1) := by decide +kernel
theorem dL_game_5 : decode cL_game 5 = .ok (.invokevirtual 93, 3) := by decide +kernel
theorem dL_game_8 : decode cL_game 8 = .ok (.i2l, 1) := by decide +kernel
theorem dL_game_9 : decode cL_game 9 = .ok (.lastore, 1) := by decide +kernel
theorem dL_game_10 : decode cL_game 10 = .ok (.goto 7, 3) := by decide +kernel
theorem dL_game_13 : decode cL_game 13 = .ok (.astore 4, 2) := by decide +kernel
theorem dL_game_15 : decode cL_game 15 = .ok (.iconst 1, 1) := by decide +kernel
theorem dL_game_16 : decode cL_game 16 = .ok (.ireturn, 1) := by decide +kernel
theorem dL_game_17 : decode cL_game 17 = .ok (.iconst 0, 1) := by decide +kernel
theorem dL_game_18 : decode cL_game 18 = .ok (.ireturn, 1) := by decide +kernel
theorem dL_season_0 : decode cL_season 0 = .ok (.aload 4, 2) := by decide +kernel
theorem dL_season_2 : decode cL_season 2 = .ok (.iconst 0, 1) := by decide +kernel
theorem dL_season_3 : decode cL_season 3 = .ok (.aload_n 0, 1) := by decide +kernel
theorem dL_season_4 : decode cL_season 4 = .ok (.iload_n 1, 1) := by decide +kernel
theorem dL_season_5 : decode cL_season 5 = .ok (.iload_n 2, 1) := by decide +kernel
theorem dL_season_6 : decode cL_season 6 = .ok (.iload_n 3, 1) := by decide +kernel
theorem dL_season_7 : decode cL_season 7 = .ok (.invokevirtual 96, 3) := by decide +kernel
theorem dL_season_10 : decode cL_season 10 = .ok (.i2l, 1) := by decide +kernel
theorem dL_season_11 : decode cL_season 11 = .ok (.lastore, 1) := by decide +kernel
theorem dL_season_12 : decode cL_season 12 = .ok (.goto 11, 3) := by decide +kernel
theorem dL_season_15 : decode cL_season 15 = .ok (.astore 5, 2) := by decide +kernel
theorem dL_season_17 : decode cL_season 17 = .ok (.iconst 1, 1) := by decide +kernel
theorem dL_season_18 : decode cL_season 18 = .ok (.ireturn, 1) := by decide +kernel
theorem dL_season_19 : decode cL_season 19 = .ok (.astore 5, 2) := by decide +kernel
theorem dL_season_21 : decode cL_season 21 = .ok (.iconst 2, 1) := by decide +kernel
theorem dL_season_22 : decode cL_season 22 = .ok (.ireturn, 1) := by decide +kernel
theorem dL_season_23 : decode cL_season 23 = .ok (.iconst 0, 1) := by decide +kernel
theorem dL_season_24 : decode cL_season 24 = .ok (.ireturn, 1) := by decide +kernel
def f_L_land (I : Mem) (P : PMem) (O : Nat → Int64) (D : Bool) (n : Nat) (v1 : Int32) : Option (Int32 × Mem × PMem × (Nat → Int64) × Bool × Nat) :=
  (f_X7_land I P v1).bind fun y => match y with
  | Sum.inl q => some ((0 : Int32), q.2.1, q.2.2, vp_updL O 0 q.1.toInt64, D, n)
  | Sum.inr e => if e = 0 then some ((1 : Int32), I, P, O, D, n + 1) else none
theorem wW_L_land : Cond.codeWith yL_land cL_land 4 (some .int) [(0, 9, 12, 13)] ∈ GW := GW_at 505 (by decide +kernel) (by decide +kernel)
theorem cx_L_108 : CWW RL 108 yL_land cL_land 4 (some .int) [(0, 9, 12, 13)] 3 := CWW.mk ml_L_108 wT_L_land wN_L wW_L_land (by decide +kernel) (by decide)
theorem tk_L_land_0 : Takes9 RL [(0, 9, 12, 13)] 4 0 12 := ⟨[], (⟨0, 9, 12, 13⟩ : ExceptionTableEntry), [], rfl, (fun z hz => by cases hz), by decide, by decide, wl_13, rfl⟩
theorem m_L_land {I : Mem} {P : PMem} {O : Nat → Int64} {D : Bool} {n : Nat} {v1 : Int32} {r : (Int32 × Mem × PMem × (Nat → Int64) × Bool × Nat)} (h : f_L_land I P O D n v1 = some r) : MethW yL_land cL_land 4 (some .int) [(0, 9, 12, 13)] 165 [.inr (.inr (7, 0, 0)), .inl v1, .inr (.inr (86, 0, 0))] I P O D n (some (.inl r.1)) r.2.1 r.2.2.1 r.2.2.2.1 r.2.2.2.2.1 r.2.2.2.2.2 := by
  obtain ⟨y, hy, h⟩ := obd_some h
  match y, hy, h with
  | Sum.inl q, hy, h =>
    cases h
    refine meth_W (own := RL) (Nat.le_refl _) (by decide) rfl (Nat.le_of_ble_eq_true rfl) rfl (fun X Q hX E => ?_)
    refine h_aload_n dL_land_0 rfl ?_
    refine h_iconst (0 : Int32) dL_land_1 k_iconst_0 ?_
    refine h_aload_n dL_land_2 rfl ?_
    refine h_iload_n dL_land_3 rfl ?_
    refine h_cVi [.inl v1] (m_X7_land hy) cw_L_7 dL_land_4 rfl ok_7 (by decide) rfl (Or.inr rfl) rfl ?_
    refine h_i2l dL_land_7 ?_
    refine h_last dL_land_8 rfl ?_
    refine h_nmO (O' := vp_updL O 0 q.1.toInt64) rfl ?_
    refine h_goto (tgt := 15) dL_land_9 (by decide) ?_
    refine h_iconst (0 : Int32) dL_land_15 k_iconst_0 ?_
    exact h_iret dL_land_16 rfl E
  | Sum.inr e, hy, h =>
    dsimp only at h
    by_cases e0 : e = 0
    · rw [if_pos e0] at h
      subst e0
      cases h
      refine meth_W (own := RL) (Nat.le_succ _) (by decide) rfl (Nat.le_of_ble_eq_true rfl) rfl (fun X Q hX E => ?_)
      refine h_aload_n dL_land_0 rfl ?_
      refine h_iconst (0 : Int32) dL_land_1 k_iconst_0 ?_
      refine h_aload_n dL_land_2 rfl ?_
      refine h_iload_n dL_land_3 rfl ?_
      exact h_callC (as := [.inl v1]) hX (mx_X7_land hy) cw_L_7 dL_land_4 rfl ok_7 (by decide) rfl rfl tk_L_land_0 rfl 3 1 (by decide) (Or.inl ⟨3, rfl, rfl, dL_land_12⟩) dL_land_13 k_iconst_1 dL_land_14 E
    · rw [if_neg e0] at h
      cases h
def f_L_count (I : Mem) (P : PMem) (O : Nat → Int64) (D : Bool) (n : Nat) (v1 : Int32) : Option (Int32 × Mem × PMem × (Nat → Int64) × Bool × Nat) :=
  (f_X7_count I P v1).bind fun y => match y with
  | Sum.inl q => some ((0 : Int32), q.2.1, q.2.2, vp_updL O 0 q.1.toInt64, D, n)
  | Sum.inr e => if e = 1 then some ((1 : Int32), I, P, O, D, n + 1) else none
theorem wW_L_count : Cond.codeWith yL_count cL_count 4 (some .int) [(0, 9, 12, 18)] ∈ GW := GW_at 791 (by decide +kernel) (by decide +kernel)
theorem cx_L_122 : CWW RL 122 yL_count cL_count 4 (some .int) [(0, 9, 12, 18)] 3 := CWW.mk ml_L_122 wT_L_count wN_L wW_L_count (by decide +kernel) (by decide)
theorem tk_L_count_1 : Takes9 RL [(0, 9, 12, 18)] 4 1 12 := ⟨[], (⟨0, 9, 12, 18⟩ : ExceptionTableEntry), [], rfl, (fun z hz => by cases hz), by decide, by decide, wl_18, rfl⟩
theorem m_L_count {I : Mem} {P : PMem} {O : Nat → Int64} {D : Bool} {n : Nat} {v1 : Int32} {r : (Int32 × Mem × PMem × (Nat → Int64) × Bool × Nat)} (h : f_L_count I P O D n v1 = some r) : MethW yL_count cL_count 4 (some .int) [(0, 9, 12, 18)] 9 [.inr (.inr (7, 0, 0)), .inl v1, .inr (.inr (86, 0, 0))] I P O D n (some (.inl r.1)) r.2.1 r.2.2.1 r.2.2.2.1 r.2.2.2.2.1 r.2.2.2.2.2 := by
  obtain ⟨y, hy, h⟩ := obd_some h
  match y, hy, h with
  | Sum.inl q, hy, h =>
    cases h
    refine meth_W (own := RL) (Nat.le_refl _) (by decide) rfl (Nat.le_of_ble_eq_true rfl) rfl (fun X Q hX E => ?_)
    refine h_aload_n dL_count_0 rfl ?_
    refine h_iconst (0 : Int32) dL_count_1 k_iconst_0 ?_
    refine h_aload_n dL_count_2 rfl ?_
    refine h_iload_n dL_count_3 rfl ?_
    refine h_cVi [.inl v1] (m_X7_count hy) cw_L_15 dL_count_4 rfl ok_7 (by decide) rfl (Or.inr rfl) rfl ?_
    refine h_i2l dL_count_7 ?_
    refine h_last dL_count_8 rfl ?_
    refine h_nmO (O' := vp_updL O 0 q.1.toInt64) rfl ?_
    refine h_goto (tgt := 15) dL_count_9 (by decide) ?_
    refine h_iconst (0 : Int32) dL_count_15 k_iconst_0 ?_
    exact h_iret dL_count_16 rfl E
  | Sum.inr e, hy, h =>
    dsimp only at h
    by_cases e1 : e = 1
    · rw [if_pos e1] at h
      subst e1
      cases h
      refine meth_W (own := RL) (Nat.le_succ _) (by decide) rfl (Nat.le_of_ble_eq_true rfl) rfl (fun X Q hX E => ?_)
      refine h_aload_n dL_count_0 rfl ?_
      refine h_iconst (0 : Int32) dL_count_1 k_iconst_0 ?_
      refine h_aload_n dL_count_2 rfl ?_
      refine h_iload_n dL_count_3 rfl ?_
      exact h_callC (as := [.inl v1]) hX (mx_X7_count hy) cw_L_15 dL_count_4 rfl ok_7 (by decide) rfl rfl tk_L_count_1 rfl 3 1 (by decide) (Or.inl ⟨3, rfl, rfl, dL_count_12⟩) dL_count_13 k_iconst_1 dL_count_14 E
    · rw [if_neg e1] at h
      cases h
def f_L_far (I : Mem) (P : PMem) (O : Nat → Int64) (D : Bool) (n : Nat) (v1 : Int32) (v2 : Int32) (v3 : Int32) : Option (Int32 × Mem × PMem × (Nat → Int64) × Bool × Nat) :=
  (f_X7_far I P v1 v2 v3).bind fun y => match y with
  | Sum.inl q => some ((0 : Int32), I, P, vp_updL O 0 q.toInt64, D, n)
  | Sum.inr e => if e = 1 then some ((1 : Int32), I, P, O, D, n + 1) else none
theorem wW_L_far : Cond.codeWith yL_far cL_far 6 (some .int) [(0, 12, 15, 18)] ∈ GW := GW_at 921 (by decide +kernel) (by decide +kernel)
theorem cx_L_125 : CWW RL 125 yL_far cL_far 6 (some .int) [(0, 12, 15, 18)] 5 := CWW.mk ml_L_125 wT_L_far wN_L wW_L_far (by decide +kernel) (by decide)
theorem tk_L_far_1 : Takes9 RL [(0, 12, 15, 18)] 7 1 15 := ⟨[], (⟨0, 12, 15, 18⟩ : ExceptionTableEntry), [], rfl, (fun z hz => by cases hz), by decide, by decide, wl_18, rfl⟩
theorem m_L_far {I : Mem} {P : PMem} {O : Nat → Int64} {D : Bool} {n : Nat} {v1 : Int32} {v2 : Int32} {v3 : Int32} {r : (Int32 × Mem × PMem × (Nat → Int64) × Bool × Nat)} (h : f_L_far I P O D n v1 v2 v3 = some r) : MethW yL_far cL_far 6 (some .int) [(0, 12, 15, 18)] 10 [.inr (.inr (7, 0, 0)), .inl v1, .inl v2, .inl v3, .inr (.inr (86, 0, 0))] I P O D n (some (.inl r.1)) r.2.1 r.2.2.1 r.2.2.2.1 r.2.2.2.2.1 r.2.2.2.2.2 := by
  obtain ⟨y, hy, h⟩ := obd_some h
  match y, hy, h with
  | Sum.inl q, hy, h =>
    cases h
    refine meth_W (own := RL) (Nat.le_refl _) (by decide) rfl (Nat.le_of_ble_eq_true rfl) rfl (fun X Q hX E => ?_)
    refine h_aload dL_far_0 rfl ?_
    refine h_iconst (0 : Int32) dL_far_2 k_iconst_0 ?_
    refine h_aload_n dL_far_3 rfl ?_
    refine h_iload_n dL_far_4 rfl ?_
    refine h_iload_n dL_far_5 rfl ?_
    refine h_iload_n dL_far_6 rfl ?_
    refine h_cVi [.inl v1, .inl v2, .inl v3] (m_X7_far hy) cw_L_20 dL_far_7 rfl ok_7 (by decide) rfl (Or.inr rfl) rfl ?_
    refine h_i2l dL_far_10 ?_
    refine h_last dL_far_11 rfl ?_
    refine h_nmO (O' := vp_updL O 0 q.toInt64) rfl ?_
    refine h_goto (tgt := 19) dL_far_12 (by decide) ?_
    refine h_iconst (0 : Int32) dL_far_19 k_iconst_0 ?_
    exact h_iret dL_far_20 rfl E
  | Sum.inr e, hy, h =>
    dsimp only at h
    by_cases e1 : e = 1
    · rw [if_pos e1] at h
      subst e1
      cases h
      refine meth_W (own := RL) (Nat.le_succ _) (by decide) rfl (Nat.le_of_ble_eq_true rfl) rfl (fun X Q hX E => ?_)
      refine h_aload dL_far_0 rfl ?_
      refine h_iconst (0 : Int32) dL_far_2 k_iconst_0 ?_
      refine h_aload_n dL_far_3 rfl ?_
      refine h_iload_n dL_far_4 rfl ?_
      refine h_iload_n dL_far_5 rfl ?_
      refine h_iload_n dL_far_6 rfl ?_
      exact h_callC (as := [.inl v1, .inl v2, .inl v3]) hX (mx_X7_far hy) cw_L_20 dL_far_7 rfl ok_7 (by decide) rfl rfl tk_L_far_1 rfl 5 2 (by decide) (Or.inr ⟨rfl, dL_far_15⟩) dL_far_17 k_iconst_1 dL_far_18 E
    · rw [if_neg e1] at h
      cases h
def f_L_judge (I : Mem) (P : PMem) (O : Nat → Int64) (D : Bool) (n : Nat) (v1 : Int32) (v2 : Int32) : Option (Int32 × Mem × PMem × (Nat → Int64) × Bool × Nat) :=
  (f_X7_judge I P v1 v2).bind fun y => match y with
  | Sum.inl q => some ((0 : Int32), q.2.1, q.2.2, vp_updL O 0 q.1.toInt64, D, n)
  | Sum.inr e => if e = 1 then some ((1 : Int32), I, P, O, D, n + 1) else none
theorem wW_L_judge : Cond.codeWith yL_judge cL_judge 5 (some .int) [(0, 10, 13, 18)] ∈ GW := GW_at 940 (by decide +kernel) (by decide +kernel)
theorem cx_L_129 : CWW RL 129 yL_judge cL_judge 5 (some .int) [(0, 10, 13, 18)] 4 := CWW.mk ml_L_129 wT_L_judge wN_L wW_L_judge (by decide +kernel) (by decide)
theorem tk_L_judge_1 : Takes9 RL [(0, 10, 13, 18)] 5 1 13 := ⟨[], (⟨0, 10, 13, 18⟩ : ExceptionTableEntry), [], rfl, (fun z hz => by cases hz), by decide, by decide, wl_18, rfl⟩
theorem m_L_judge {I : Mem} {P : PMem} {O : Nat → Int64} {D : Bool} {n : Nat} {v1 : Int32} {v2 : Int32} {r : (Int32 × Mem × PMem × (Nat → Int64) × Bool × Nat)} (h : f_L_judge I P O D n v1 v2 = some r) : MethW yL_judge cL_judge 5 (some .int) [(0, 10, 13, 18)] 10 [.inr (.inr (7, 0, 0)), .inl v1, .inl v2, .inr (.inr (86, 0, 0))] I P O D n (some (.inl r.1)) r.2.1 r.2.2.1 r.2.2.2.1 r.2.2.2.2.1 r.2.2.2.2.2 := by
  obtain ⟨y, hy, h⟩ := obd_some h
  match y, hy, h with
  | Sum.inl q, hy, h =>
    cases h
    refine meth_W (own := RL) (Nat.le_refl _) (by decide) rfl (Nat.le_of_ble_eq_true rfl) rfl (fun X Q hX E => ?_)
    refine h_aload_n dL_judge_0 rfl ?_
    refine h_iconst (0 : Int32) dL_judge_1 k_iconst_0 ?_
    refine h_aload_n dL_judge_2 rfl ?_
    refine h_iload_n dL_judge_3 rfl ?_
    refine h_iload_n dL_judge_4 rfl ?_
    refine h_cVi [.inl v1, .inl v2] (m_X7_judge hy) cw_L_24 dL_judge_5 rfl ok_7 (by decide) rfl (Or.inr rfl) rfl ?_
    refine h_i2l dL_judge_8 ?_
    refine h_last dL_judge_9 rfl ?_
    refine h_nmO (O' := vp_updL O 0 q.1.toInt64) rfl ?_
    refine h_goto (tgt := 17) dL_judge_10 (by decide) ?_
    refine h_iconst (0 : Int32) dL_judge_17 k_iconst_0 ?_
    exact h_iret dL_judge_18 rfl E
  | Sum.inr e, hy, h =>
    dsimp only at h
    by_cases e1 : e = 1
    · rw [if_pos e1] at h
      subst e1
      cases h
      refine meth_W (own := RL) (Nat.le_succ _) (by decide) rfl (Nat.le_of_ble_eq_true rfl) rfl (fun X Q hX E => ?_)
      refine h_aload_n dL_judge_0 rfl ?_
      refine h_iconst (0 : Int32) dL_judge_1 k_iconst_0 ?_
      refine h_aload_n dL_judge_2 rfl ?_
      refine h_iload_n dL_judge_3 rfl ?_
      refine h_iload_n dL_judge_4 rfl ?_
      exact h_callC (as := [.inl v1, .inl v2]) hX (mx_X7_judge hy) cw_L_24 dL_judge_5 rfl ok_7 (by decide) rfl rfl tk_L_judge_1 rfl 4 2 (by decide) (Or.inr ⟨rfl, dL_judge_13⟩) dL_judge_15 k_iconst_1 dL_judge_16 E
    · rw [if_neg e1] at h
      cases h
def f_L_stop (I : Mem) (P : PMem) (O : Nat → Int64) (D : Bool) (n : Nat) (v1 : Int32) (v2 : Int32) (v3 : Int32) : Option (Int32 × Mem × PMem × (Nat → Int64) × Bool × Nat) :=
  (f_X7_stop I P v1 v2 v3).bind fun y => match y with
  | Sum.inl q => some ((0 : Int32), q.2.1, q.2.2, vp_updL O 0 q.1.toInt64, D, n)
  | Sum.inr e => if e = 1 then some ((1 : Int32), I, P, O, D, n + 1) else none
theorem wW_L_stop : Cond.codeWith yL_stop cL_stop 6 (some .int) [(0, 12, 15, 18)] ∈ GW := GW_at 956 (by decide +kernel) (by decide +kernel)
theorem cx_L_133 : CWW RL 133 yL_stop cL_stop 6 (some .int) [(0, 12, 15, 18)] 5 := CWW.mk ml_L_133 wT_L_stop wN_L wW_L_stop (by decide +kernel) (by decide)
theorem tk_L_stop_1 : Takes9 RL [(0, 12, 15, 18)] 7 1 15 := ⟨[], (⟨0, 12, 15, 18⟩ : ExceptionTableEntry), [], rfl, (fun z hz => by cases hz), by decide, by decide, wl_18, rfl⟩
theorem m_L_stop {I : Mem} {P : PMem} {O : Nat → Int64} {D : Bool} {n : Nat} {v1 : Int32} {v2 : Int32} {v3 : Int32} {r : (Int32 × Mem × PMem × (Nat → Int64) × Bool × Nat)} (h : f_L_stop I P O D n v1 v2 v3 = some r) : MethW yL_stop cL_stop 6 (some .int) [(0, 12, 15, 18)] 10 [.inr (.inr (7, 0, 0)), .inl v1, .inl v2, .inl v3, .inr (.inr (86, 0, 0))] I P O D n (some (.inl r.1)) r.2.1 r.2.2.1 r.2.2.2.1 r.2.2.2.2.1 r.2.2.2.2.2 := by
  obtain ⟨y, hy, h⟩ := obd_some h
  match y, hy, h with
  | Sum.inl q, hy, h =>
    cases h
    refine meth_W (own := RL) (Nat.le_refl _) (by decide) rfl (Nat.le_of_ble_eq_true rfl) rfl (fun X Q hX E => ?_)
    refine h_aload dL_stop_0 rfl ?_
    refine h_iconst (0 : Int32) dL_stop_2 k_iconst_0 ?_
    refine h_aload_n dL_stop_3 rfl ?_
    refine h_iload_n dL_stop_4 rfl ?_
    refine h_iload_n dL_stop_5 rfl ?_
    refine h_iload_n dL_stop_6 rfl ?_
    refine h_cVi [.inl v1, .inl v2, .inl v3] (m_X7_stop hy) cw_L_28 dL_stop_7 rfl ok_7 (by decide) rfl (Or.inr rfl) rfl ?_
    refine h_i2l dL_stop_10 ?_
    refine h_last dL_stop_11 rfl ?_
    refine h_nmO (O' := vp_updL O 0 q.1.toInt64) rfl ?_
    refine h_goto (tgt := 19) dL_stop_12 (by decide) ?_
    refine h_iconst (0 : Int32) dL_stop_19 k_iconst_0 ?_
    exact h_iret dL_stop_20 rfl E
  | Sum.inr e, hy, h =>
    dsimp only at h
    by_cases e1 : e = 1
    · rw [if_pos e1] at h
      subst e1
      cases h
      refine meth_W (own := RL) (Nat.le_succ _) (by decide) rfl (Nat.le_of_ble_eq_true rfl) rfl (fun X Q hX E => ?_)
      refine h_aload dL_stop_0 rfl ?_
      refine h_iconst (0 : Int32) dL_stop_2 k_iconst_0 ?_
      refine h_aload_n dL_stop_3 rfl ?_
      refine h_iload_n dL_stop_4 rfl ?_
      refine h_iload_n dL_stop_5 rfl ?_
      refine h_iload_n dL_stop_6 rfl ?_
      exact h_callC (as := [.inl v1, .inl v2, .inl v3]) hX (mx_X7_stop hy) cw_L_28 dL_stop_7 rfl ok_7 (by decide) rfl rfl tk_L_stop_1 rfl 5 2 (by decide) (Or.inr ⟨rfl, dL_stop_15⟩) dL_stop_17 k_iconst_1 dL_stop_18 E
    · rw [if_neg e1] at h
      cases h
def f_L_where (I : Mem) (P : PMem) (O : Nat → Int64) (D : Bool) (n : Nat) (v1 : Int32) (v2 : Int32) : Option (Int32 × Mem × PMem × (Nat → Int64) × Bool × Nat) :=
  (f_X7_where I P v1 v2).bind fun y => match y with
  | Sum.inl q => some ((0 : Int32), q.2.1, q.2.2, vp_updL O 0 q.1.toInt64, D, n)
  | Sum.inr e => if e = 1 then some ((1 : Int32), I, P, O, D, n + 1) else none
theorem wW_L_where : Cond.codeWith yL_where cL_where 5 (some .int) [(0, 10, 13, 18)] ∈ GW := GW_at 964 (by decide +kernel) (by decide +kernel)
theorem cx_L_136 : CWW RL 136 yL_where cL_where 5 (some .int) [(0, 10, 13, 18)] 4 := CWW.mk ml_L_136 wT_L_where wN_L wW_L_where (by decide +kernel) (by decide)
theorem tk_L_where_1 : Takes9 RL [(0, 10, 13, 18)] 5 1 13 := ⟨[], (⟨0, 10, 13, 18⟩ : ExceptionTableEntry), [], rfl, (fun z hz => by cases hz), by decide, by decide, wl_18, rfl⟩
theorem m_L_where {I : Mem} {P : PMem} {O : Nat → Int64} {D : Bool} {n : Nat} {v1 : Int32} {v2 : Int32} {r : (Int32 × Mem × PMem × (Nat → Int64) × Bool × Nat)} (h : f_L_where I P O D n v1 v2 = some r) : MethW yL_where cL_where 5 (some .int) [(0, 10, 13, 18)] 10 [.inr (.inr (7, 0, 0)), .inl v1, .inl v2, .inr (.inr (86, 0, 0))] I P O D n (some (.inl r.1)) r.2.1 r.2.2.1 r.2.2.2.1 r.2.2.2.2.1 r.2.2.2.2.2 := by
  obtain ⟨y, hy, h⟩ := obd_some h
  match y, hy, h with
  | Sum.inl q, hy, h =>
    cases h
    refine meth_W (own := RL) (Nat.le_refl _) (by decide) rfl (Nat.le_of_ble_eq_true rfl) rfl (fun X Q hX E => ?_)
    refine h_aload_n dL_where_0 rfl ?_
    refine h_iconst (0 : Int32) dL_where_1 k_iconst_0 ?_
    refine h_aload_n dL_where_2 rfl ?_
    refine h_iload_n dL_where_3 rfl ?_
    refine h_iload_n dL_where_4 rfl ?_
    refine h_cVi [.inl v1, .inl v2] (m_X7_where hy) cw_L_31 dL_where_5 rfl ok_7 (by decide) rfl (Or.inr rfl) rfl ?_
    refine h_i2l dL_where_8 ?_
    refine h_last dL_where_9 rfl ?_
    refine h_nmO (O' := vp_updL O 0 q.1.toInt64) rfl ?_
    refine h_goto (tgt := 17) dL_where_10 (by decide) ?_
    refine h_iconst (0 : Int32) dL_where_17 k_iconst_0 ?_
    exact h_iret dL_where_18 rfl E
  | Sum.inr e, hy, h =>
    dsimp only at h
    by_cases e1 : e = 1
    · rw [if_pos e1] at h
      subst e1
      cases h
      refine meth_W (own := RL) (Nat.le_succ _) (by decide) rfl (Nat.le_of_ble_eq_true rfl) rfl (fun X Q hX E => ?_)
      refine h_aload_n dL_where_0 rfl ?_
      refine h_iconst (0 : Int32) dL_where_1 k_iconst_0 ?_
      refine h_aload_n dL_where_2 rfl ?_
      refine h_iload_n dL_where_3 rfl ?_
      refine h_iload_n dL_where_4 rfl ?_
      exact h_callC (as := [.inl v1, .inl v2]) hX (mx_X7_where hy) cw_L_31 dL_where_5 rfl ok_7 (by decide) rfl rfl tk_L_where_1 rfl 4 2 (by decide) (Or.inr ⟨rfl, dL_where_13⟩) dL_where_15 k_iconst_1 dL_where_16 E
    · rw [if_neg e1] at h
      cases h
def f_L_proof (I : Mem) (P : PMem) (O : Nat → Int64) (D : Bool) (n : Nat) (v1 : Int32) (v2 : Int32) : Option (Int32 × Mem × PMem × (Nat → Int64) × Bool × Nat) :=
  (f_X7_proof I P v1 v2).bind fun y => match y with
  | Sum.inl q => some ((0 : Int32), I, P, vp_updL O 0 q.toInt64, D, n)
  | Sum.inr e => if e = 1 then some ((1 : Int32), I, P, O, D, n + 1) else none
theorem wW_L_proof : Cond.codeWith yL_proof cL_proof 5 (some .int) [(0, 10, 13, 18)] ∈ GW := GW_at 972 (by decide +kernel) (by decide +kernel)
theorem cx_L_139 : CWW RL 139 yL_proof cL_proof 5 (some .int) [(0, 10, 13, 18)] 4 := CWW.mk ml_L_139 wT_L_proof wN_L wW_L_proof (by decide +kernel) (by decide)
theorem tk_L_proof_1 : Takes9 RL [(0, 10, 13, 18)] 5 1 13 := ⟨[], (⟨0, 10, 13, 18⟩ : ExceptionTableEntry), [], rfl, (fun z hz => by cases hz), by decide, by decide, wl_18, rfl⟩
theorem m_L_proof {I : Mem} {P : PMem} {O : Nat → Int64} {D : Bool} {n : Nat} {v1 : Int32} {v2 : Int32} {r : (Int32 × Mem × PMem × (Nat → Int64) × Bool × Nat)} (h : f_L_proof I P O D n v1 v2 = some r) : MethW yL_proof cL_proof 5 (some .int) [(0, 10, 13, 18)] 10 [.inr (.inr (7, 0, 0)), .inl v1, .inl v2, .inr (.inr (86, 0, 0))] I P O D n (some (.inl r.1)) r.2.1 r.2.2.1 r.2.2.2.1 r.2.2.2.2.1 r.2.2.2.2.2 := by
  obtain ⟨y, hy, h⟩ := obd_some h
  match y, hy, h with
  | Sum.inl q, hy, h =>
    cases h
    refine meth_W (own := RL) (Nat.le_refl _) (by decide) rfl (Nat.le_of_ble_eq_true rfl) rfl (fun X Q hX E => ?_)
    refine h_aload_n dL_proof_0 rfl ?_
    refine h_iconst (0 : Int32) dL_proof_1 k_iconst_0 ?_
    refine h_aload_n dL_proof_2 rfl ?_
    refine h_iload_n dL_proof_3 rfl ?_
    refine h_iload_n dL_proof_4 rfl ?_
    refine h_cVi [.inl v1, .inl v2] (m_X7_proof hy) cw_L_34 dL_proof_5 rfl ok_7 (by decide) rfl (Or.inr rfl) rfl ?_
    refine h_i2l dL_proof_8 ?_
    refine h_last dL_proof_9 rfl ?_
    refine h_nmO (O' := vp_updL O 0 q.toInt64) rfl ?_
    refine h_goto (tgt := 17) dL_proof_10 (by decide) ?_
    refine h_iconst (0 : Int32) dL_proof_17 k_iconst_0 ?_
    exact h_iret dL_proof_18 rfl E
  | Sum.inr e, hy, h =>
    dsimp only at h
    by_cases e1 : e = 1
    · rw [if_pos e1] at h
      subst e1
      cases h
      refine meth_W (own := RL) (Nat.le_succ _) (by decide) rfl (Nat.le_of_ble_eq_true rfl) rfl (fun X Q hX E => ?_)
      refine h_aload_n dL_proof_0 rfl ?_
      refine h_iconst (0 : Int32) dL_proof_1 k_iconst_0 ?_
      refine h_aload_n dL_proof_2 rfl ?_
      refine h_iload_n dL_proof_3 rfl ?_
      refine h_iload_n dL_proof_4 rfl ?_
      exact h_callC (as := [.inl v1, .inl v2]) hX (mx_X7_proof hy) cw_L_34 dL_proof_5 rfl ok_7 (by decide) rfl rfl tk_L_proof_1 rfl 4 2 (by decide) (Or.inr ⟨rfl, dL_proof_13⟩) dL_proof_15 k_iconst_1 dL_proof_16 E
    · rw [if_neg e1] at h
      cases h
def f_L_said (I : Mem) (P : PMem) (O : Nat → Int64) (D : Bool) (n : Nat) (v1 : Int32) (v2 : Int32) (v3 : Int32) : Option (Int32 × Mem × PMem × (Nat → Int64) × Bool × Nat) :=
  (f_X7_said I P v1 v2 v3).bind fun y => match y with
  | Sum.inl q => some ((0 : Int32), q.2.1, q.2.2, vp_updL O 0 q.1.toInt64, D, n)
  | Sum.inr e => if e = 1 then some ((1 : Int32), I, P, O, D, n + 1) else none
theorem wW_L_said : Cond.codeWith yL_said cL_said 6 (some .int) [(0, 12, 15, 18)] ∈ GW := GW_at 984 (by decide +kernel) (by decide +kernel)
theorem cx_L_142 : CWW RL 142 yL_said cL_said 6 (some .int) [(0, 12, 15, 18)] 5 := CWW.mk ml_L_142 wT_L_said wN_L wW_L_said (by decide +kernel) (by decide)
theorem tk_L_said_1 : Takes9 RL [(0, 12, 15, 18)] 7 1 15 := ⟨[], (⟨0, 12, 15, 18⟩ : ExceptionTableEntry), [], rfl, (fun z hz => by cases hz), by decide, by decide, wl_18, rfl⟩
theorem m_L_said {I : Mem} {P : PMem} {O : Nat → Int64} {D : Bool} {n : Nat} {v1 : Int32} {v2 : Int32} {v3 : Int32} {r : (Int32 × Mem × PMem × (Nat → Int64) × Bool × Nat)} (h : f_L_said I P O D n v1 v2 v3 = some r) : MethW yL_said cL_said 6 (some .int) [(0, 12, 15, 18)] 10 [.inr (.inr (7, 0, 0)), .inl v1, .inl v2, .inl v3, .inr (.inr (86, 0, 0))] I P O D n (some (.inl r.1)) r.2.1 r.2.2.1 r.2.2.2.1 r.2.2.2.2.1 r.2.2.2.2.2 := by
  obtain ⟨y, hy, h⟩ := obd_some h
  match y, hy, h with
  | Sum.inl q, hy, h =>
    cases h
    refine meth_W (own := RL) (Nat.le_refl _) (by decide) rfl (Nat.le_of_ble_eq_true rfl) rfl (fun X Q hX E => ?_)
    refine h_aload dL_said_0 rfl ?_
    refine h_iconst (0 : Int32) dL_said_2 k_iconst_0 ?_
    refine h_aload_n dL_said_3 rfl ?_
    refine h_iload_n dL_said_4 rfl ?_
    refine h_iload_n dL_said_5 rfl ?_
    refine h_iload_n dL_said_6 rfl ?_
    refine h_cVi [.inl v1, .inl v2, .inl v3] (m_X7_said hy) cw_L_37 dL_said_7 rfl ok_7 (by decide) rfl (Or.inr rfl) rfl ?_
    refine h_i2l dL_said_10 ?_
    refine h_last dL_said_11 rfl ?_
    refine h_nmO (O' := vp_updL O 0 q.1.toInt64) rfl ?_
    refine h_goto (tgt := 19) dL_said_12 (by decide) ?_
    refine h_iconst (0 : Int32) dL_said_19 k_iconst_0 ?_
    exact h_iret dL_said_20 rfl E
  | Sum.inr e, hy, h =>
    dsimp only at h
    by_cases e1 : e = 1
    · rw [if_pos e1] at h
      subst e1
      cases h
      refine meth_W (own := RL) (Nat.le_succ _) (by decide) rfl (Nat.le_of_ble_eq_true rfl) rfl (fun X Q hX E => ?_)
      refine h_aload dL_said_0 rfl ?_
      refine h_iconst (0 : Int32) dL_said_2 k_iconst_0 ?_
      refine h_aload_n dL_said_3 rfl ?_
      refine h_iload_n dL_said_4 rfl ?_
      refine h_iload_n dL_said_5 rfl ?_
      refine h_iload_n dL_said_6 rfl ?_
      exact h_callC (as := [.inl v1, .inl v2, .inl v3]) hX (mx_X7_said hy) cw_L_37 dL_said_7 rfl ok_7 (by decide) rfl rfl tk_L_said_1 rfl 5 2 (by decide) (Or.inr ⟨rfl, dL_said_15⟩) dL_said_17 k_iconst_1 dL_said_18 E
    · rw [if_neg e1] at h
      cases h
def f_L_met (I : Mem) (P : PMem) (O : Nat → Int64) (D : Bool) (n : Nat) (v1 : Int32) (v2 : Int32) : Option (Int32 × Mem × PMem × (Nat → Int64) × Bool × Nat) :=
  (f_X7_met I P v1 v2).bind fun y => match y with
  | Sum.inl q => some ((0 : Int32), q.2.1, q.2.2, vp_updL O 0 q.1.toInt64, D, n)
  | Sum.inr e => if e = 0 then some ((2 : Int32), I, P, O, D, n + 1) else if e = 1 then some ((1 : Int32), I, P, O, D, n + 1) else none
theorem wW_L_met : Cond.codeWith yL_met cL_met 5 (some .int) [(0, 10, 13, 18), (0, 10, 17, 13)] ∈ GW := GW_at 995 (by decide +kernel) (by decide +kernel)
theorem cx_L_145 : CWW RL 145 yL_met cL_met 5 (some .int) [(0, 10, 13, 18), (0, 10, 17, 13)] 4 := CWW.mk ml_L_145 wT_L_met wN_L wW_L_met (by decide +kernel) (by decide)
theorem tk_L_met_0 : Takes9 RL [(0, 10, 13, 18), (0, 10, 17, 13)] 5 0 17 := ⟨[(⟨0, 10, 13, 18⟩ : ExceptionTableEntry)], (⟨0, 10, 17, 13⟩ : ExceptionTableEntry), [], rfl, (fun z hz => by
    rcases List.mem_cons.mp hz with rfl | h
    · exact ⟨by decide, rfl, wl_18⟩
    · cases h), by decide, by decide, wl_13, rfl⟩
theorem tk_L_met_1 : Takes9 RL [(0, 10, 13, 18), (0, 10, 17, 13)] 5 1 13 := ⟨[], (⟨0, 10, 13, 18⟩ : ExceptionTableEntry), [(⟨0, 10, 17, 13⟩ : ExceptionTableEntry)], rfl, (fun z hz => by cases hz), by decide, by decide, wl_18, rfl⟩
theorem m_L_met {I : Mem} {P : PMem} {O : Nat → Int64} {D : Bool} {n : Nat} {v1 : Int32} {v2 : Int32} {r : (Int32 × Mem × PMem × (Nat → Int64) × Bool × Nat)} (h : f_L_met I P O D n v1 v2 = some r) : MethW yL_met cL_met 5 (some .int) [(0, 10, 13, 18), (0, 10, 17, 13)] 10 [.inr (.inr (7, 0, 0)), .inl v1, .inl v2, .inr (.inr (86, 0, 0))] I P O D n (some (.inl r.1)) r.2.1 r.2.2.1 r.2.2.2.1 r.2.2.2.2.1 r.2.2.2.2.2 := by
  obtain ⟨y, hy, h⟩ := obd_some h
  match y, hy, h with
  | Sum.inl q, hy, h =>
    cases h
    refine meth_W (own := RL) (Nat.le_refl _) (by decide) rfl (Nat.le_of_ble_eq_true rfl) rfl (fun X Q hX E => ?_)
    refine h_aload_n dL_met_0 rfl ?_
    refine h_iconst (0 : Int32) dL_met_1 k_iconst_0 ?_
    refine h_aload_n dL_met_2 rfl ?_
    refine h_iload_n dL_met_3 rfl ?_
    refine h_iload_n dL_met_4 rfl ?_
    refine h_cVi [.inl v1, .inl v2] (m_X7_met hy) cw_L_40 dL_met_5 rfl ok_7 (by decide) rfl (Or.inr rfl) rfl ?_
    refine h_i2l dL_met_8 ?_
    refine h_last dL_met_9 rfl ?_
    refine h_nmO (O' := vp_updL O 0 q.1.toInt64) rfl ?_
    refine h_goto (tgt := 21) dL_met_10 (by decide) ?_
    refine h_iconst (0 : Int32) dL_met_21 k_iconst_0 ?_
    exact h_iret dL_met_22 rfl E
  | Sum.inr e, hy, h =>
    dsimp only at h
    by_cases e0 : e = 0
    · rw [if_pos e0] at h
      subst e0
      cases h
      refine meth_W (own := RL) (Nat.le_succ _) (by decide) rfl (Nat.le_of_ble_eq_true rfl) rfl (fun X Q hX E => ?_)
      refine h_aload_n dL_met_0 rfl ?_
      refine h_iconst (0 : Int32) dL_met_1 k_iconst_0 ?_
      refine h_aload_n dL_met_2 rfl ?_
      refine h_iload_n dL_met_3 rfl ?_
      refine h_iload_n dL_met_4 rfl ?_
      exact h_callC (as := [.inl v1, .inl v2]) hX (mx_X7_met hy) cw_L_40 dL_met_5 rfl ok_7 (by decide) rfl rfl tk_L_met_0 rfl 4 2 (by decide) (Or.inr ⟨rfl, dL_met_17⟩) dL_met_19 k_iconst_2 dL_met_20 E
    · rw [if_neg e0] at h
      by_cases e1 : e = 1
      · rw [if_pos e1] at h
        subst e1
        cases h
        refine meth_W (own := RL) (Nat.le_succ _) (by decide) rfl (Nat.le_of_ble_eq_true rfl) rfl (fun X Q hX E => ?_)
        refine h_aload_n dL_met_0 rfl ?_
        refine h_iconst (0 : Int32) dL_met_1 k_iconst_0 ?_
        refine h_aload_n dL_met_2 rfl ?_
        refine h_iload_n dL_met_3 rfl ?_
        refine h_iload_n dL_met_4 rfl ?_
        exact h_callC (as := [.inl v1, .inl v2]) hX (mx_X7_met hy) cw_L_40 dL_met_5 rfl ok_7 (by decide) rfl rfl tk_L_met_1 rfl 4 2 (by decide) (Or.inr ⟨rfl, dL_met_13⟩) dL_met_15 k_iconst_1 dL_met_16 E
      · rw [if_neg e1] at h
        cases h
def f_L_guilty (I : Mem) (P : PMem) (O : Nat → Int64) (D : Bool) (n : Nat) (v1 : Int32) (v2 : Int32) : Option (Int32 × Mem × PMem × (Nat → Int64) × Bool × Nat) :=
  (f_X7_guilty I P v1 v2).bind fun y => match y with
  | Sum.inl q => some ((0 : Int32), q.2.1, q.2.2, vp_updL O 0 q.1.toInt64, D, n)
  | Sum.inr e => if e = 1 then some ((1 : Int32), I, P, O, D, n + 1) else none
theorem wW_L_guilty : Cond.codeWith yL_guilty cL_guilty 5 (some .int) [(0, 10, 13, 18)] ∈ GW := GW_at 1003 (by decide +kernel) (by decide +kernel)
theorem cx_L_148 : CWW RL 148 yL_guilty cL_guilty 5 (some .int) [(0, 10, 13, 18)] 4 := CWW.mk ml_L_148 wT_L_guilty wN_L wW_L_guilty (by decide +kernel) (by decide)
theorem tk_L_guilty_1 : Takes9 RL [(0, 10, 13, 18)] 5 1 13 := ⟨[], (⟨0, 10, 13, 18⟩ : ExceptionTableEntry), [], rfl, (fun z hz => by cases hz), by decide, by decide, wl_18, rfl⟩
theorem m_L_guilty {I : Mem} {P : PMem} {O : Nat → Int64} {D : Bool} {n : Nat} {v1 : Int32} {v2 : Int32} {r : (Int32 × Mem × PMem × (Nat → Int64) × Bool × Nat)} (h : f_L_guilty I P O D n v1 v2 = some r) : MethW yL_guilty cL_guilty 5 (some .int) [(0, 10, 13, 18)] 10 [.inr (.inr (7, 0, 0)), .inl v1, .inl v2, .inr (.inr (86, 0, 0))] I P O D n (some (.inl r.1)) r.2.1 r.2.2.1 r.2.2.2.1 r.2.2.2.2.1 r.2.2.2.2.2 := by
  obtain ⟨y, hy, h⟩ := obd_some h
  match y, hy, h with
  | Sum.inl q, hy, h =>
    cases h
    refine meth_W (own := RL) (Nat.le_refl _) (by decide) rfl (Nat.le_of_ble_eq_true rfl) rfl (fun X Q hX E => ?_)
    refine h_aload_n dL_guilty_0 rfl ?_
    refine h_iconst (0 : Int32) dL_guilty_1 k_iconst_0 ?_
    refine h_aload_n dL_guilty_2 rfl ?_
    refine h_iload_n dL_guilty_3 rfl ?_
    refine h_iload_n dL_guilty_4 rfl ?_
    refine h_cVi [.inl v1, .inl v2] (m_X7_guilty hy) cw_L_43 dL_guilty_5 rfl ok_7 (by decide) rfl (Or.inr rfl) rfl ?_
    refine h_i2l dL_guilty_8 ?_
    refine h_last dL_guilty_9 rfl ?_
    refine h_nmO (O' := vp_updL O 0 q.1.toInt64) rfl ?_
    refine h_goto (tgt := 17) dL_guilty_10 (by decide) ?_
    refine h_iconst (0 : Int32) dL_guilty_17 k_iconst_0 ?_
    exact h_iret dL_guilty_18 rfl E
  | Sum.inr e, hy, h =>
    dsimp only at h
    by_cases e1 : e = 1
    · rw [if_pos e1] at h
      subst e1
      cases h
      refine meth_W (own := RL) (Nat.le_succ _) (by decide) rfl (Nat.le_of_ble_eq_true rfl) rfl (fun X Q hX E => ?_)
      refine h_aload_n dL_guilty_0 rfl ?_
      refine h_iconst (0 : Int32) dL_guilty_1 k_iconst_0 ?_
      refine h_aload_n dL_guilty_2 rfl ?_
      refine h_iload_n dL_guilty_3 rfl ?_
      refine h_iload_n dL_guilty_4 rfl ?_
      exact h_callC (as := [.inl v1, .inl v2]) hX (mx_X7_guilty hy) cw_L_43 dL_guilty_5 rfl ok_7 (by decide) rfl rfl tk_L_guilty_1 rfl 4 2 (by decide) (Or.inr ⟨rfl, dL_guilty_13⟩) dL_guilty_15 k_iconst_1 dL_guilty_16 E
    · rw [if_neg e1] at h
      cases h
def f_L_news (I : Mem) (P : PMem) (O : Nat → Int64) (D : Bool) (n : Nat) (v1 : Int32) (v2 : Int32) : Option (Int32 × Mem × PMem × (Nat → Int64) × Bool × Nat) :=
  (f_X7_news I P v1 v2).bind fun y => match y with
  | Sum.inl q => some ((0 : Int32), q.2.1, q.2.2, vp_updL O 0 q.1.toInt64, D, n)
  | Sum.inr e => if e = 1 then some ((1 : Int32), I, P, O, D, n + 1) else none
theorem wW_L_news : Cond.codeWith yL_news cL_news 5 (some .int) [(0, 10, 13, 18)] ∈ GW := GW_at 1014 (by decide +kernel) (by decide +kernel)
theorem cx_L_151 : CWW RL 151 yL_news cL_news 5 (some .int) [(0, 10, 13, 18)] 4 := CWW.mk ml_L_151 wT_L_news wN_L wW_L_news (by decide +kernel) (by decide)
theorem tk_L_news_1 : Takes9 RL [(0, 10, 13, 18)] 5 1 13 := ⟨[], (⟨0, 10, 13, 18⟩ : ExceptionTableEntry), [], rfl, (fun z hz => by cases hz), by decide, by decide, wl_18, rfl⟩
theorem m_L_news {I : Mem} {P : PMem} {O : Nat → Int64} {D : Bool} {n : Nat} {v1 : Int32} {v2 : Int32} {r : (Int32 × Mem × PMem × (Nat → Int64) × Bool × Nat)} (h : f_L_news I P O D n v1 v2 = some r) : MethW yL_news cL_news 5 (some .int) [(0, 10, 13, 18)] 10 [.inr (.inr (7, 0, 0)), .inl v1, .inl v2, .inr (.inr (86, 0, 0))] I P O D n (some (.inl r.1)) r.2.1 r.2.2.1 r.2.2.2.1 r.2.2.2.2.1 r.2.2.2.2.2 := by
  obtain ⟨y, hy, h⟩ := obd_some h
  match y, hy, h with
  | Sum.inl q, hy, h =>
    cases h
    refine meth_W (own := RL) (Nat.le_refl _) (by decide) rfl (Nat.le_of_ble_eq_true rfl) rfl (fun X Q hX E => ?_)
    refine h_aload_n dL_news_0 rfl ?_
    refine h_iconst (0 : Int32) dL_news_1 k_iconst_0 ?_
    refine h_aload_n dL_news_2 rfl ?_
    refine h_iload_n dL_news_3 rfl ?_
    refine h_iload_n dL_news_4 rfl ?_
    refine h_cVi [.inl v1, .inl v2] (m_X7_news hy) cw_L_46 dL_news_5 rfl ok_7 (by decide) rfl (Or.inr rfl) rfl ?_
    refine h_i2l dL_news_8 ?_
    refine h_last dL_news_9 rfl ?_
    refine h_nmO (O' := vp_updL O 0 q.1.toInt64) rfl ?_
    refine h_goto (tgt := 17) dL_news_10 (by decide) ?_
    refine h_iconst (0 : Int32) dL_news_17 k_iconst_0 ?_
    exact h_iret dL_news_18 rfl E
  | Sum.inr e, hy, h =>
    dsimp only at h
    by_cases e1 : e = 1
    · rw [if_pos e1] at h
      subst e1
      cases h
      refine meth_W (own := RL) (Nat.le_succ _) (by decide) rfl (Nat.le_of_ble_eq_true rfl) rfl (fun X Q hX E => ?_)
      refine h_aload_n dL_news_0 rfl ?_
      refine h_iconst (0 : Int32) dL_news_1 k_iconst_0 ?_
      refine h_aload_n dL_news_2 rfl ?_
      refine h_iload_n dL_news_3 rfl ?_
      refine h_iload_n dL_news_4 rfl ?_
      exact h_callC (as := [.inl v1, .inl v2]) hX (mx_X7_news hy) cw_L_46 dL_news_5 rfl ok_7 (by decide) rfl rfl tk_L_news_1 rfl 4 2 (by decide) (Or.inr ⟨rfl, dL_news_13⟩) dL_news_15 k_iconst_1 dL_news_16 E
    · rw [if_neg e1] at h
      cases h
def f_L_start (I : Mem) (P : PMem) (O : Nat → Int64) (D : Bool) (n : Nat) (v1 : Int32) (v2 : Int32) : Option (Int32 × Mem × PMem × (Nat → Int64) × Bool × Nat) :=
  (f_X7_start P I v1 v2).bind fun y => match y with
  | Sum.inl q => some ((0 : Int32), q.2, P, vp_updL O 0 q.1.toInt64, D, n)
  | Sum.inr e => if e = 1 then some ((1 : Int32), I, P, O, D, n + 1) else none
theorem wW_L_start : Cond.codeWith yL_start cL_start 5 (some .int) [(0, 10, 13, 18)] ∈ GW := GW_at 1029 (by decide +kernel) (by decide +kernel)
theorem cx_L_154 : CWW RL 154 yL_start cL_start 5 (some .int) [(0, 10, 13, 18)] 4 := CWW.mk ml_L_154 wT_L_start wN_L wW_L_start (by decide +kernel) (by decide)
theorem tk_L_start_1 : Takes9 RL [(0, 10, 13, 18)] 5 1 13 := ⟨[], (⟨0, 10, 13, 18⟩ : ExceptionTableEntry), [], rfl, (fun z hz => by cases hz), by decide, by decide, wl_18, rfl⟩
theorem m_L_start {I : Mem} {P : PMem} {O : Nat → Int64} {D : Bool} {n : Nat} {v1 : Int32} {v2 : Int32} {r : (Int32 × Mem × PMem × (Nat → Int64) × Bool × Nat)} (h : f_L_start I P O D n v1 v2 = some r) : MethW yL_start cL_start 5 (some .int) [(0, 10, 13, 18)] 10 [.inr (.inr (7, 0, 0)), .inl v1, .inl v2, .inr (.inr (86, 0, 0))] I P O D n (some (.inl r.1)) r.2.1 r.2.2.1 r.2.2.2.1 r.2.2.2.2.1 r.2.2.2.2.2 := by
  obtain ⟨y, hy, h⟩ := obd_some h
  match y, hy, h with
  | Sum.inl q, hy, h =>
    cases h
    refine meth_W (own := RL) (Nat.le_refl _) (by decide) rfl (Nat.le_of_ble_eq_true rfl) rfl (fun X Q hX E => ?_)
    refine h_aload_n dL_start_0 rfl ?_
    refine h_iconst (0 : Int32) dL_start_1 k_iconst_0 ?_
    refine h_aload_n dL_start_2 rfl ?_
    refine h_iload_n dL_start_3 rfl ?_
    refine h_iload_n dL_start_4 rfl ?_
    refine h_cVi [.inl v1, .inl v2] (m_X7_start hy) cw_L_49 dL_start_5 rfl ok_7 (by decide) rfl (Or.inr rfl) rfl ?_
    refine h_i2l dL_start_8 ?_
    refine h_last dL_start_9 rfl ?_
    refine h_nmO (O' := vp_updL O 0 q.1.toInt64) rfl ?_
    refine h_goto (tgt := 17) dL_start_10 (by decide) ?_
    refine h_iconst (0 : Int32) dL_start_17 k_iconst_0 ?_
    exact h_iret dL_start_18 rfl E
  | Sum.inr e, hy, h =>
    dsimp only at h
    by_cases e1 : e = 1
    · rw [if_pos e1] at h
      subst e1
      cases h
      refine meth_W (own := RL) (Nat.le_succ _) (by decide) rfl (Nat.le_of_ble_eq_true rfl) rfl (fun X Q hX E => ?_)
      refine h_aload_n dL_start_0 rfl ?_
      refine h_iconst (0 : Int32) dL_start_1 k_iconst_0 ?_
      refine h_aload_n dL_start_2 rfl ?_
      refine h_iload_n dL_start_3 rfl ?_
      refine h_iload_n dL_start_4 rfl ?_
      exact h_callC (as := [.inl v1, .inl v2]) hX (mx_X7_start hy) cw_L_49 dL_start_5 rfl ok_7 (by decide) rfl rfl tk_L_start_1 rfl 4 2 (by decide) (Or.inr ⟨rfl, dL_start_13⟩) dL_start_15 k_iconst_1 dL_start_16 E
    · rw [if_neg e1] at h
      cases h
def f_L_inn (I : Mem) (P : PMem) (O : Nat → Int64) (D : Bool) (n : Nat) (v1 : Int32) (v2 : Int32) : Option (Int32 × Mem × PMem × (Nat → Int64) × Bool × Nat) :=
  (f_X7_inn P I v1 v2).bind fun y => match y with
  | Sum.inl q => some ((0 : Int32), q.2, P, vp_updL O 0 (if q.1 = 0 then (0 : Int64) else (1 : Int64)), D, n)
  | Sum.inr e => if e = 1 then some ((1 : Int32), I, P, O, D, n + 1) else none
theorem wW_L_inn : Cond.codeWith yL_inn cL_inn 5 (some .int) [(0, 17, 20, 18)] ∈ GW := GW_at 1056 (by decide +kernel) (by decide +kernel)
theorem cx_L_157 : CWW RL 157 yL_inn cL_inn 5 (some .int) [(0, 17, 20, 18)] 4 := CWW.mk ml_L_157 wT_L_inn wN_L wW_L_inn (by decide +kernel) (by decide)
theorem tk_L_inn_1 : Takes9 RL [(0, 17, 20, 18)] 5 1 20 := ⟨[], (⟨0, 17, 20, 18⟩ : ExceptionTableEntry), [], rfl, (fun z hz => by cases hz), by decide, by decide, wl_18, rfl⟩
theorem m_L_inn {I : Mem} {P : PMem} {O : Nat → Int64} {D : Bool} {n : Nat} {v1 : Int32} {v2 : Int32} {r : (Int32 × Mem × PMem × (Nat → Int64) × Bool × Nat)} (h : f_L_inn I P O D n v1 v2 = some r) : MethW yL_inn cL_inn 5 (some .int) [(0, 17, 20, 18)] 10 [.inr (.inr (7, 0, 0)), .inl v1, .inl v2, .inr (.inr (86, 0, 0))] I P O D n (some (.inl r.1)) r.2.1 r.2.2.1 r.2.2.2.1 r.2.2.2.2.1 r.2.2.2.2.2 := by
  obtain ⟨y, hy, h⟩ := obd_some h
  match y, hy, h with
  | Sum.inl q, hy, h =>
    cases h
    refine meth_W (own := RL) (Nat.le_refl _) (by decide) rfl (Nat.le_of_ble_eq_true rfl) rfl (fun X Q hX E => ?_)
    refine h_aload_n dL_inn_0 rfl ?_
    refine h_iconst (0 : Int32) dL_inn_1 k_iconst_0 ?_
    refine h_aload_n dL_inn_2 rfl ?_
    refine h_iload_n dL_inn_3 rfl ?_
    refine h_iload_n dL_inn_4 rfl ?_
    refine h_cVi [.inl v1, .inl v2] (m_X7_inn hy) cw_L_52 dL_inn_5 rfl ok_7 (by decide) rfl (Or.inr rfl) rfl ?_
    refine h_if_eq (tgt := 15) dL_inn_8 (by decide) (fun q1 => ?_) (fun q1 => ?_)
    · rw [if_pos q1] at E
      refine h_lconst 0 dL_inn_15 rfl ?_
      refine h_last dL_inn_16 rfl ?_
      refine h_nmO (O' := vp_updL O 0 (0 : Int64)) rfl ?_
      refine h_goto (tgt := 24) dL_inn_17 (by decide) ?_
      refine h_iconst (0 : Int32) dL_inn_24 k_iconst_0 ?_
      exact h_iret dL_inn_25 rfl E
    · rw [if_neg q1] at E
      refine h_lconst 1 dL_inn_11 rfl ?_
      refine h_goto (tgt := 16) dL_inn_12 (by decide) ?_
      refine h_last dL_inn_16 rfl ?_
      refine h_nmO (O' := vp_updL O 0 (1 : Int64)) rfl ?_
      refine h_goto (tgt := 24) dL_inn_17 (by decide) ?_
      refine h_iconst (0 : Int32) dL_inn_24 k_iconst_0 ?_
      exact h_iret dL_inn_25 rfl E
  | Sum.inr e, hy, h =>
    dsimp only at h
    by_cases e1 : e = 1
    · rw [if_pos e1] at h
      subst e1
      cases h
      refine meth_W (own := RL) (Nat.le_succ _) (by decide) rfl (Nat.le_of_ble_eq_true rfl) rfl (fun X Q hX E => ?_)
      refine h_aload_n dL_inn_0 rfl ?_
      refine h_iconst (0 : Int32) dL_inn_1 k_iconst_0 ?_
      refine h_aload_n dL_inn_2 rfl ?_
      refine h_iload_n dL_inn_3 rfl ?_
      refine h_iload_n dL_inn_4 rfl ?_
      exact h_callC (as := [.inl v1, .inl v2]) hX (mx_X7_inn hy) cw_L_52 dL_inn_5 rfl ok_7 (by decide) rfl rfl tk_L_inn_1 rfl 4 2 (by decide) (Or.inr ⟨rfl, dL_inn_20⟩) dL_inn_22 k_iconst_1 dL_inn_23 E
    · rw [if_neg e1] at h
      cases h
def f_L_word (I : Mem) (P : PMem) (O : Nat → Int64) (D : Bool) (n : Nat) (v1 : Int32) (v2 : Int32) (v3 : Int32) : Option (Int32 × Mem × PMem × (Nat → Int64) × Bool × Nat) :=
  (f_X7_word P I v1 v2 v3).bind fun y => match y with
  | Sum.inl q => some ((0 : Int32), q.2, P, vp_updL O 0 q.1.toInt64, D, n)
  | Sum.inr e => if e = 1 then some ((1 : Int32), I, P, O, D, n + 1) else none
theorem wW_L_word : Cond.codeWith yL_word cL_word 6 (some .int) [(0, 12, 15, 18)] ∈ GW := GW_at 1063 (by decide +kernel) (by decide +kernel)
theorem cx_L_161 : CWW RL 161 yL_word cL_word 6 (some .int) [(0, 12, 15, 18)] 5 := CWW.mk ml_L_161 wT_L_word wN_L wW_L_word (by decide +kernel) (by decide)
theorem tk_L_word_1 : Takes9 RL [(0, 12, 15, 18)] 7 1 15 := ⟨[], (⟨0, 12, 15, 18⟩ : ExceptionTableEntry), [], rfl, (fun z hz => by cases hz), by decide, by decide, wl_18, rfl⟩
theorem m_L_word {I : Mem} {P : PMem} {O : Nat → Int64} {D : Bool} {n : Nat} {v1 : Int32} {v2 : Int32} {v3 : Int32} {r : (Int32 × Mem × PMem × (Nat → Int64) × Bool × Nat)} (h : f_L_word I P O D n v1 v2 v3 = some r) : MethW yL_word cL_word 6 (some .int) [(0, 12, 15, 18)] 10 [.inr (.inr (7, 0, 0)), .inl v1, .inl v2, .inl v3, .inr (.inr (86, 0, 0))] I P O D n (some (.inl r.1)) r.2.1 r.2.2.1 r.2.2.2.1 r.2.2.2.2.1 r.2.2.2.2.2 := by
  obtain ⟨y, hy, h⟩ := obd_some h
  match y, hy, h with
  | Sum.inl q, hy, h =>
    cases h
    refine meth_W (own := RL) (Nat.le_refl _) (by decide) rfl (Nat.le_of_ble_eq_true rfl) rfl (fun X Q hX E => ?_)
    refine h_aload dL_word_0 rfl ?_
    refine h_iconst (0 : Int32) dL_word_2 k_iconst_0 ?_
    refine h_aload_n dL_word_3 rfl ?_
    refine h_iload_n dL_word_4 rfl ?_
    refine h_iload_n dL_word_5 rfl ?_
    refine h_iload_n dL_word_6 rfl ?_
    refine h_cVi [.inl v1, .inl v2, .inl v3] (m_X7_word hy) cw_L_56 dL_word_7 rfl ok_7 (by decide) rfl (Or.inr rfl) rfl ?_
    refine h_i2l dL_word_10 ?_
    refine h_last dL_word_11 rfl ?_
    refine h_nmO (O' := vp_updL O 0 q.1.toInt64) rfl ?_
    refine h_goto (tgt := 19) dL_word_12 (by decide) ?_
    refine h_iconst (0 : Int32) dL_word_19 k_iconst_0 ?_
    exact h_iret dL_word_20 rfl E
  | Sum.inr e, hy, h =>
    dsimp only at h
    by_cases e1 : e = 1
    · rw [if_pos e1] at h
      subst e1
      cases h
      refine meth_W (own := RL) (Nat.le_succ _) (by decide) rfl (Nat.le_of_ble_eq_true rfl) rfl (fun X Q hX E => ?_)
      refine h_aload dL_word_0 rfl ?_
      refine h_iconst (0 : Int32) dL_word_2 k_iconst_0 ?_
      refine h_aload_n dL_word_3 rfl ?_
      refine h_iload_n dL_word_4 rfl ?_
      refine h_iload_n dL_word_5 rfl ?_
      refine h_iload_n dL_word_6 rfl ?_
      exact h_callC (as := [.inl v1, .inl v2, .inl v3]) hX (mx_X7_word hy) cw_L_56 dL_word_7 rfl ok_7 (by decide) rfl rfl tk_L_word_1 rfl 5 2 (by decide) (Or.inr ⟨rfl, dL_word_15⟩) dL_word_17 k_iconst_1 dL_word_18 E
    · rw [if_neg e1] at h
      cases h
def f_L_feast (I : Mem) (P : PMem) (O : Nat → Int64) (D : Bool) (n : Nat) (v1 : Int32) (v2 : Int32) (v3 : Int32) : Option (Int32 × Mem × PMem × (Nat → Int64) × Bool × Nat) :=
  (f_X7_feast P I v1 v2 v3).bind fun y => match y with
  | Sum.inl q => some ((0 : Int32), q.2, P, vp_updL O 0 q.1.toInt64, D, n)
  | Sum.inr e => if e = 1 then some ((1 : Int32), I, P, O, D, n + 1) else none
theorem wW_L_feast : Cond.codeWith yL_feast cL_feast 6 (some .int) [(0, 12, 15, 18)] ∈ GW := GW_at 1071 (by decide +kernel) (by decide +kernel)
theorem cx_L_164 : CWW RL 164 yL_feast cL_feast 6 (some .int) [(0, 12, 15, 18)] 5 := CWW.mk ml_L_164 wT_L_feast wN_L wW_L_feast (by decide +kernel) (by decide)
theorem tk_L_feast_1 : Takes9 RL [(0, 12, 15, 18)] 7 1 15 := ⟨[], (⟨0, 12, 15, 18⟩ : ExceptionTableEntry), [], rfl, (fun z hz => by cases hz), by decide, by decide, wl_18, rfl⟩
theorem m_L_feast {I : Mem} {P : PMem} {O : Nat → Int64} {D : Bool} {n : Nat} {v1 : Int32} {v2 : Int32} {v3 : Int32} {r : (Int32 × Mem × PMem × (Nat → Int64) × Bool × Nat)} (h : f_L_feast I P O D n v1 v2 v3 = some r) : MethW yL_feast cL_feast 6 (some .int) [(0, 12, 15, 18)] 10 [.inr (.inr (7, 0, 0)), .inl v1, .inl v2, .inl v3, .inr (.inr (86, 0, 0))] I P O D n (some (.inl r.1)) r.2.1 r.2.2.1 r.2.2.2.1 r.2.2.2.2.1 r.2.2.2.2.2 := by
  obtain ⟨y, hy, h⟩ := obd_some h
  match y, hy, h with
  | Sum.inl q, hy, h =>
    cases h
    refine meth_W (own := RL) (Nat.le_refl _) (by decide) rfl (Nat.le_of_ble_eq_true rfl) rfl (fun X Q hX E => ?_)
    refine h_aload dL_feast_0 rfl ?_
    refine h_iconst (0 : Int32) dL_feast_2 k_iconst_0 ?_
    refine h_aload_n dL_feast_3 rfl ?_
    refine h_iload_n dL_feast_4 rfl ?_
    refine h_iload_n dL_feast_5 rfl ?_
    refine h_iload_n dL_feast_6 rfl ?_
    refine h_cVi [.inl v1, .inl v2, .inl v3] (m_X7_feast hy) cw_L_59 dL_feast_7 rfl ok_7 (by decide) rfl (Or.inr rfl) rfl ?_
    refine h_i2l dL_feast_10 ?_
    refine h_last dL_feast_11 rfl ?_
    refine h_nmO (O' := vp_updL O 0 q.1.toInt64) rfl ?_
    refine h_goto (tgt := 19) dL_feast_12 (by decide) ?_
    refine h_iconst (0 : Int32) dL_feast_19 k_iconst_0 ?_
    exact h_iret dL_feast_20 rfl E
  | Sum.inr e, hy, h =>
    dsimp only at h
    by_cases e1 : e = 1
    · rw [if_pos e1] at h
      subst e1
      cases h
      refine meth_W (own := RL) (Nat.le_succ _) (by decide) rfl (Nat.le_of_ble_eq_true rfl) rfl (fun X Q hX E => ?_)
      refine h_aload dL_feast_0 rfl ?_
      refine h_iconst (0 : Int32) dL_feast_2 k_iconst_0 ?_
      refine h_aload_n dL_feast_3 rfl ?_
      refine h_iload_n dL_feast_4 rfl ?_
      refine h_iload_n dL_feast_5 rfl ?_
      refine h_iload_n dL_feast_6 rfl ?_
      exact h_callC (as := [.inl v1, .inl v2, .inl v3]) hX (mx_X7_feast hy) cw_L_59 dL_feast_7 rfl ok_7 (by decide) rfl rfl tk_L_feast_1 rfl 5 2 (by decide) (Or.inr ⟨rfl, dL_feast_15⟩) dL_feast_17 k_iconst_1 dL_feast_18 E
    · rw [if_neg e1] at h
      cases h
def f_L_flood (I : Mem) (P : PMem) (O : Nat → Int64) (D : Bool) (n : Nat) (v1 : Int32) (v2 : Int32) (v3 : Int32) : Option (Int32 × Mem × PMem × (Nat → Int64) × Bool × Nat) :=
  (f_X7_flood P I v1 v2 v3).bind fun y => match y with
  | Sum.inl q => some ((0 : Int32), q.2, P, vp_updL O 0 q.1.toInt64, D, n)
  | Sum.inr e => if e = 1 then some ((1 : Int32), I, P, O, D, n + 1) else none
theorem wW_L_flood : Cond.codeWith yL_flood cL_flood 6 (some .int) [(0, 12, 15, 18)] ∈ GW := GW_at 1078 (by decide +kernel) (by decide +kernel)
theorem cx_L_167 : CWW RL 167 yL_flood cL_flood 6 (some .int) [(0, 12, 15, 18)] 5 := CWW.mk ml_L_167 wT_L_flood wN_L wW_L_flood (by decide +kernel) (by decide)
theorem tk_L_flood_1 : Takes9 RL [(0, 12, 15, 18)] 7 1 15 := ⟨[], (⟨0, 12, 15, 18⟩ : ExceptionTableEntry), [], rfl, (fun z hz => by cases hz), by decide, by decide, wl_18, rfl⟩
theorem m_L_flood {I : Mem} {P : PMem} {O : Nat → Int64} {D : Bool} {n : Nat} {v1 : Int32} {v2 : Int32} {v3 : Int32} {r : (Int32 × Mem × PMem × (Nat → Int64) × Bool × Nat)} (h : f_L_flood I P O D n v1 v2 v3 = some r) : MethW yL_flood cL_flood 6 (some .int) [(0, 12, 15, 18)] 10 [.inr (.inr (7, 0, 0)), .inl v1, .inl v2, .inl v3, .inr (.inr (86, 0, 0))] I P O D n (some (.inl r.1)) r.2.1 r.2.2.1 r.2.2.2.1 r.2.2.2.2.1 r.2.2.2.2.2 := by
  obtain ⟨y, hy, h⟩ := obd_some h
  match y, hy, h with
  | Sum.inl q, hy, h =>
    cases h
    refine meth_W (own := RL) (Nat.le_refl _) (by decide) rfl (Nat.le_of_ble_eq_true rfl) rfl (fun X Q hX E => ?_)
    refine h_aload dL_flood_0 rfl ?_
    refine h_iconst (0 : Int32) dL_flood_2 k_iconst_0 ?_
    refine h_aload_n dL_flood_3 rfl ?_
    refine h_iload_n dL_flood_4 rfl ?_
    refine h_iload_n dL_flood_5 rfl ?_
    refine h_iload_n dL_flood_6 rfl ?_
    refine h_cVi [.inl v1, .inl v2, .inl v3] (m_X7_flood hy) cw_L_62 dL_flood_7 rfl ok_7 (by decide) rfl (Or.inr rfl) rfl ?_
    refine h_i2l dL_flood_10 ?_
    refine h_last dL_flood_11 rfl ?_
    refine h_nmO (O' := vp_updL O 0 q.1.toInt64) rfl ?_
    refine h_goto (tgt := 19) dL_flood_12 (by decide) ?_
    refine h_iconst (0 : Int32) dL_flood_19 k_iconst_0 ?_
    exact h_iret dL_flood_20 rfl E
  | Sum.inr e, hy, h =>
    dsimp only at h
    by_cases e1 : e = 1
    · rw [if_pos e1] at h
      subst e1
      cases h
      refine meth_W (own := RL) (Nat.le_succ _) (by decide) rfl (Nat.le_of_ble_eq_true rfl) rfl (fun X Q hX E => ?_)
      refine h_aload dL_flood_0 rfl ?_
      refine h_iconst (0 : Int32) dL_flood_2 k_iconst_0 ?_
      refine h_aload_n dL_flood_3 rfl ?_
      refine h_iload_n dL_flood_4 rfl ?_
      refine h_iload_n dL_flood_5 rfl ?_
      refine h_iload_n dL_flood_6 rfl ?_
      exact h_callC (as := [.inl v1, .inl v2, .inl v3]) hX (mx_X7_flood hy) cw_L_62 dL_flood_7 rfl ok_7 (by decide) rfl rfl tk_L_flood_1 rfl 5 2 (by decide) (Or.inr ⟨rfl, dL_flood_15⟩) dL_flood_17 k_iconst_1 dL_flood_18 E
    · rw [if_neg e1] at h
      cases h
def f_L_burn (I : Mem) (P : PMem) (O : Nat → Int64) (D : Bool) (n : Nat) (v1 : Int32) : Option (Int32 × Mem × PMem × (Nat → Int64) × Bool × Nat) :=
  (f_X7_burn I P v1).bind fun y => match y with
  | Sum.inl q => some ((0 : Int32), q.2.1, q.2.2, vp_updL O 0 q.1.toInt64, D, n)
  | Sum.inr e => if e = 1 then some ((1 : Int32), I, P, O, D, n + 1) else none
theorem wW_L_burn : Cond.codeWith yL_burn cL_burn 4 (some .int) [(0, 9, 12, 18)] ∈ GW := GW_at 1085 (by decide +kernel) (by decide +kernel)
theorem cx_L_174 : CWW RL 174 yL_burn cL_burn 4 (some .int) [(0, 9, 12, 18)] 3 := CWW.mk ml_L_174 wT_L_burn wN_L wW_L_burn (by decide +kernel) (by decide)
theorem tk_L_burn_1 : Takes9 RL [(0, 9, 12, 18)] 4 1 12 := ⟨[], (⟨0, 9, 12, 18⟩ : ExceptionTableEntry), [], rfl, (fun z hz => by cases hz), by decide, by decide, wl_18, rfl⟩
theorem m_L_burn {I : Mem} {P : PMem} {O : Nat → Int64} {D : Bool} {n : Nat} {v1 : Int32} {r : (Int32 × Mem × PMem × (Nat → Int64) × Bool × Nat)} (h : f_L_burn I P O D n v1 = some r) : MethW yL_burn cL_burn 4 (some .int) [(0, 9, 12, 18)] 10 [.inr (.inr (7, 0, 0)), .inl v1, .inr (.inr (86, 0, 0))] I P O D n (some (.inl r.1)) r.2.1 r.2.2.1 r.2.2.2.1 r.2.2.2.2.1 r.2.2.2.2.2 := by
  obtain ⟨y, hy, h⟩ := obd_some h
  match y, hy, h with
  | Sum.inl q, hy, h =>
    cases h
    refine meth_W (own := RL) (Nat.le_refl _) (by decide) rfl (Nat.le_of_ble_eq_true rfl) rfl (fun X Q hX E => ?_)
    refine h_aload_n dL_burn_0 rfl ?_
    refine h_iconst (0 : Int32) dL_burn_1 k_iconst_0 ?_
    refine h_aload_n dL_burn_2 rfl ?_
    refine h_iload_n dL_burn_3 rfl ?_
    refine h_cVi [.inl v1] (m_X7_burn hy) cw_L_65 dL_burn_4 rfl ok_7 (by decide) rfl (Or.inr rfl) rfl ?_
    refine h_i2l dL_burn_7 ?_
    refine h_last dL_burn_8 rfl ?_
    refine h_nmO (O' := vp_updL O 0 q.1.toInt64) rfl ?_
    refine h_goto (tgt := 15) dL_burn_9 (by decide) ?_
    refine h_iconst (0 : Int32) dL_burn_15 k_iconst_0 ?_
    exact h_iret dL_burn_16 rfl E
  | Sum.inr e, hy, h =>
    dsimp only at h
    by_cases e1 : e = 1
    · rw [if_pos e1] at h
      subst e1
      cases h
      refine meth_W (own := RL) (Nat.le_succ _) (by decide) rfl (Nat.le_of_ble_eq_true rfl) rfl (fun X Q hX E => ?_)
      refine h_aload_n dL_burn_0 rfl ?_
      refine h_iconst (0 : Int32) dL_burn_1 k_iconst_0 ?_
      refine h_aload_n dL_burn_2 rfl ?_
      refine h_iload_n dL_burn_3 rfl ?_
      exact h_callC (as := [.inl v1]) hX (mx_X7_burn hy) cw_L_65 dL_burn_4 rfl ok_7 (by decide) rfl rfl tk_L_burn_1 rfl 3 1 (by decide) (Or.inl ⟨3, rfl, rfl, dL_burn_12⟩) dL_burn_13 k_iconst_1 dL_burn_14 E
    · rw [if_neg e1] at h
      cases h
def f_L_when (I : Mem) (P : PMem) (O : Nat → Int64) (D : Bool) (n : Nat) (v1 : Int32) (v2 : Int32) : Option (Int32 × Mem × PMem × (Nat → Int64) × Bool × Nat) :=
  (f_X7_when I P v1 v2).bind fun y => match y with
  | Sum.inl q => some ((0 : Int32), q.2.1, q.2.2, vp_updL O 0 q.1.toInt64, D, n)
  | Sum.inr e => if e = 1 then some ((1 : Int32), I, P, O, D, n + 1) else none
theorem wW_L_when : Cond.codeWith yL_when cL_when 5 (some .int) [(0, 10, 13, 18)] ∈ GW := GW_at 1095 (by decide +kernel) (by decide +kernel)
theorem cx_L_177 : CWW RL 177 yL_when cL_when 5 (some .int) [(0, 10, 13, 18)] 4 := CWW.mk ml_L_177 wT_L_when wN_L wW_L_when (by decide +kernel) (by decide)
theorem tk_L_when_1 : Takes9 RL [(0, 10, 13, 18)] 5 1 13 := ⟨[], (⟨0, 10, 13, 18⟩ : ExceptionTableEntry), [], rfl, (fun z hz => by cases hz), by decide, by decide, wl_18, rfl⟩
theorem m_L_when {I : Mem} {P : PMem} {O : Nat → Int64} {D : Bool} {n : Nat} {v1 : Int32} {v2 : Int32} {r : (Int32 × Mem × PMem × (Nat → Int64) × Bool × Nat)} (h : f_L_when I P O D n v1 v2 = some r) : MethW yL_when cL_when 5 (some .int) [(0, 10, 13, 18)] 10 [.inr (.inr (7, 0, 0)), .inl v1, .inl v2, .inr (.inr (86, 0, 0))] I P O D n (some (.inl r.1)) r.2.1 r.2.2.1 r.2.2.2.1 r.2.2.2.2.1 r.2.2.2.2.2 := by
  obtain ⟨y, hy, h⟩ := obd_some h
  match y, hy, h with
  | Sum.inl q, hy, h =>
    cases h
    refine meth_W (own := RL) (Nat.le_refl _) (by decide) rfl (Nat.le_of_ble_eq_true rfl) rfl (fun X Q hX E => ?_)
    refine h_aload_n dL_when_0 rfl ?_
    refine h_iconst (0 : Int32) dL_when_1 k_iconst_0 ?_
    refine h_aload_n dL_when_2 rfl ?_
    refine h_iload_n dL_when_3 rfl ?_
    refine h_iload_n dL_when_4 rfl ?_
    refine h_cVi [.inl v1, .inl v2] (m_X7_when hy) cw_L_68 dL_when_5 rfl ok_7 (by decide) rfl (Or.inr rfl) rfl ?_
    refine h_i2l dL_when_8 ?_
    refine h_last dL_when_9 rfl ?_
    refine h_nmO (O' := vp_updL O 0 q.1.toInt64) rfl ?_
    refine h_goto (tgt := 17) dL_when_10 (by decide) ?_
    refine h_iconst (0 : Int32) dL_when_17 k_iconst_0 ?_
    exact h_iret dL_when_18 rfl E
  | Sum.inr e, hy, h =>
    dsimp only at h
    by_cases e1 : e = 1
    · rw [if_pos e1] at h
      subst e1
      cases h
      refine meth_W (own := RL) (Nat.le_succ _) (by decide) rfl (Nat.le_of_ble_eq_true rfl) rfl (fun X Q hX E => ?_)
      refine h_aload_n dL_when_0 rfl ?_
      refine h_iconst (0 : Int32) dL_when_1 k_iconst_0 ?_
      refine h_aload_n dL_when_2 rfl ?_
      refine h_iload_n dL_when_3 rfl ?_
      refine h_iload_n dL_when_4 rfl ?_
      exact h_callC (as := [.inl v1, .inl v2]) hX (mx_X7_when hy) cw_L_68 dL_when_5 rfl ok_7 (by decide) rfl rfl tk_L_when_1 rfl 4 2 (by decide) (Or.inr ⟨rfl, dL_when_13⟩) dL_when_15 k_iconst_1 dL_when_16 E
    · rw [if_neg e1] at h
      cases h
def f_L_round (I : Mem) (P : PMem) (O : Nat → Int64) (D : Bool) (n : Nat) (v1 : Int32) : Option (Int32 × Mem × PMem × (Nat → Int64) × Bool × Nat) :=
  (f_X7_round I P v1).bind fun y => match y with
  | Sum.inl q => some ((0 : Int32), q.2.1, q.2.2, vp_updL O 0 q.1.toInt64, D, n)
  | Sum.inr e => if e = 1 then some ((1 : Int32), I, P, O, D, n + 1) else none
theorem wW_L_round : Cond.codeWith yL_round cL_round 4 (some .int) [(0, 9, 12, 18)] ∈ GW := GW_at 1103 (by decide +kernel) (by decide +kernel)
theorem cx_L_180 : CWW RL 180 yL_round cL_round 4 (some .int) [(0, 9, 12, 18)] 3 := CWW.mk ml_L_180 wT_L_round wN_L wW_L_round (by decide +kernel) (by decide)
theorem tk_L_round_1 : Takes9 RL [(0, 9, 12, 18)] 4 1 12 := ⟨[], (⟨0, 9, 12, 18⟩ : ExceptionTableEntry), [], rfl, (fun z hz => by cases hz), by decide, by decide, wl_18, rfl⟩
theorem m_L_round {I : Mem} {P : PMem} {O : Nat → Int64} {D : Bool} {n : Nat} {v1 : Int32} {r : (Int32 × Mem × PMem × (Nat → Int64) × Bool × Nat)} (h : f_L_round I P O D n v1 = some r) : MethW yL_round cL_round 4 (some .int) [(0, 9, 12, 18)] 10 [.inr (.inr (7, 0, 0)), .inl v1, .inr (.inr (86, 0, 0))] I P O D n (some (.inl r.1)) r.2.1 r.2.2.1 r.2.2.2.1 r.2.2.2.2.1 r.2.2.2.2.2 := by
  obtain ⟨y, hy, h⟩ := obd_some h
  match y, hy, h with
  | Sum.inl q, hy, h =>
    cases h
    refine meth_W (own := RL) (Nat.le_refl _) (by decide) rfl (Nat.le_of_ble_eq_true rfl) rfl (fun X Q hX E => ?_)
    refine h_aload_n dL_round_0 rfl ?_
    refine h_iconst (0 : Int32) dL_round_1 k_iconst_0 ?_
    refine h_aload_n dL_round_2 rfl ?_
    refine h_iload_n dL_round_3 rfl ?_
    refine h_cVi [.inl v1] (m_X7_round hy) cw_L_71 dL_round_4 rfl ok_7 (by decide) rfl (Or.inr rfl) rfl ?_
    refine h_i2l dL_round_7 ?_
    refine h_last dL_round_8 rfl ?_
    refine h_nmO (O' := vp_updL O 0 q.1.toInt64) rfl ?_
    refine h_goto (tgt := 15) dL_round_9 (by decide) ?_
    refine h_iconst (0 : Int32) dL_round_15 k_iconst_0 ?_
    exact h_iret dL_round_16 rfl E
  | Sum.inr e, hy, h =>
    dsimp only at h
    by_cases e1 : e = 1
    · rw [if_pos e1] at h
      subst e1
      cases h
      refine meth_W (own := RL) (Nat.le_succ _) (by decide) rfl (Nat.le_of_ble_eq_true rfl) rfl (fun X Q hX E => ?_)
      refine h_aload_n dL_round_0 rfl ?_
      refine h_iconst (0 : Int32) dL_round_1 k_iconst_0 ?_
      refine h_aload_n dL_round_2 rfl ?_
      refine h_iload_n dL_round_3 rfl ?_
      exact h_callC (as := [.inl v1]) hX (mx_X7_round hy) cw_L_71 dL_round_4 rfl ok_7 (by decide) rfl rfl tk_L_round_1 rfl 3 1 (by decide) (Or.inl ⟨3, rfl, rfl, dL_round_12⟩) dL_round_13 k_iconst_1 dL_round_14 E
    · rw [if_neg e1] at h
      cases h
def f_L_free (I : Mem) (P : PMem) (O : Nat → Int64) (D : Bool) (n : Nat) (v1 : Int32) (v2 : Int32) : Option (Int32 × Mem × PMem × (Nat → Int64) × Bool × Nat) :=
  (f_X7_free I P v1 v2).bind fun y => match y with
  | Sum.inl q => some ((0 : Int32), q.2.1, q.2.2, vp_updL O 0 q.1.toInt64, D, n)
  | Sum.inr e => if e = 1 then some ((1 : Int32), I, P, O, D, n + 1) else none
theorem wW_L_free : Cond.codeWith yL_free cL_free 5 (some .int) [(0, 10, 13, 18)] ∈ GW := GW_at 1110 (by decide +kernel) (by decide +kernel)
theorem cx_L_183 : CWW RL 183 yL_free cL_free 5 (some .int) [(0, 10, 13, 18)] 4 := CWW.mk ml_L_183 wT_L_free wN_L wW_L_free (by decide +kernel) (by decide)
theorem tk_L_free_1 : Takes9 RL [(0, 10, 13, 18)] 5 1 13 := ⟨[], (⟨0, 10, 13, 18⟩ : ExceptionTableEntry), [], rfl, (fun z hz => by cases hz), by decide, by decide, wl_18, rfl⟩
theorem m_L_free {I : Mem} {P : PMem} {O : Nat → Int64} {D : Bool} {n : Nat} {v1 : Int32} {v2 : Int32} {r : (Int32 × Mem × PMem × (Nat → Int64) × Bool × Nat)} (h : f_L_free I P O D n v1 v2 = some r) : MethW yL_free cL_free 5 (some .int) [(0, 10, 13, 18)] 10 [.inr (.inr (7, 0, 0)), .inl v1, .inl v2, .inr (.inr (86, 0, 0))] I P O D n (some (.inl r.1)) r.2.1 r.2.2.1 r.2.2.2.1 r.2.2.2.2.1 r.2.2.2.2.2 := by
  obtain ⟨y, hy, h⟩ := obd_some h
  match y, hy, h with
  | Sum.inl q, hy, h =>
    cases h
    refine meth_W (own := RL) (Nat.le_refl _) (by decide) rfl (Nat.le_of_ble_eq_true rfl) rfl (fun X Q hX E => ?_)
    refine h_aload_n dL_free_0 rfl ?_
    refine h_iconst (0 : Int32) dL_free_1 k_iconst_0 ?_
    refine h_aload_n dL_free_2 rfl ?_
    refine h_iload_n dL_free_3 rfl ?_
    refine h_iload_n dL_free_4 rfl ?_
    refine h_cVi [.inl v1, .inl v2] (m_X7_free hy) cw_L_74 dL_free_5 rfl ok_7 (by decide) rfl (Or.inr rfl) rfl ?_
    refine h_i2l dL_free_8 ?_
    refine h_last dL_free_9 rfl ?_
    refine h_nmO (O' := vp_updL O 0 q.1.toInt64) rfl ?_
    refine h_goto (tgt := 17) dL_free_10 (by decide) ?_
    refine h_iconst (0 : Int32) dL_free_17 k_iconst_0 ?_
    exact h_iret dL_free_18 rfl E
  | Sum.inr e, hy, h =>
    dsimp only at h
    by_cases e1 : e = 1
    · rw [if_pos e1] at h
      subst e1
      cases h
      refine meth_W (own := RL) (Nat.le_succ _) (by decide) rfl (Nat.le_of_ble_eq_true rfl) rfl (fun X Q hX E => ?_)
      refine h_aload_n dL_free_0 rfl ?_
      refine h_iconst (0 : Int32) dL_free_1 k_iconst_0 ?_
      refine h_aload_n dL_free_2 rfl ?_
      refine h_iload_n dL_free_3 rfl ?_
      refine h_iload_n dL_free_4 rfl ?_
      exact h_callC (as := [.inl v1, .inl v2]) hX (mx_X7_free hy) cw_L_74 dL_free_5 rfl ok_7 (by decide) rfl rfl tk_L_free_1 rfl 4 2 (by decide) (Or.inr ⟨rfl, dL_free_13⟩) dL_free_15 k_iconst_1 dL_free_16 E
    · rw [if_neg e1] at h
      cases h
def f_L_mercy (I : Mem) (P : PMem) (O : Nat → Int64) (D : Bool) (n : Nat) (v1 : Int32) : Option (Int32 × Mem × PMem × (Nat → Int64) × Bool × Nat) :=
  (f_X7_mercy I P v1).bind fun y => match y with
  | Sum.inl q => some ((0 : Int32), q.2.1, q.2.2, vp_updL O 0 q.1.toInt64, D, n)
  | Sum.inr e => if e = 1 then some ((1 : Int32), I, P, O, D, n + 1) else none
theorem wW_L_mercy : Cond.codeWith yL_mercy cL_mercy 4 (some .int) [(0, 9, 12, 18)] ∈ GW := GW_at 1119 (by decide +kernel) (by decide +kernel)
theorem cx_L_186 : CWW RL 186 yL_mercy cL_mercy 4 (some .int) [(0, 9, 12, 18)] 3 := CWW.mk ml_L_186 wT_L_mercy wN_L wW_L_mercy (by decide +kernel) (by decide)
theorem tk_L_mercy_1 : Takes9 RL [(0, 9, 12, 18)] 4 1 12 := ⟨[], (⟨0, 9, 12, 18⟩ : ExceptionTableEntry), [], rfl, (fun z hz => by cases hz), by decide, by decide, wl_18, rfl⟩
theorem m_L_mercy {I : Mem} {P : PMem} {O : Nat → Int64} {D : Bool} {n : Nat} {v1 : Int32} {r : (Int32 × Mem × PMem × (Nat → Int64) × Bool × Nat)} (h : f_L_mercy I P O D n v1 = some r) : MethW yL_mercy cL_mercy 4 (some .int) [(0, 9, 12, 18)] 10 [.inr (.inr (7, 0, 0)), .inl v1, .inr (.inr (86, 0, 0))] I P O D n (some (.inl r.1)) r.2.1 r.2.2.1 r.2.2.2.1 r.2.2.2.2.1 r.2.2.2.2.2 := by
  obtain ⟨y, hy, h⟩ := obd_some h
  match y, hy, h with
  | Sum.inl q, hy, h =>
    cases h
    refine meth_W (own := RL) (Nat.le_refl _) (by decide) rfl (Nat.le_of_ble_eq_true rfl) rfl (fun X Q hX E => ?_)
    refine h_aload_n dL_mercy_0 rfl ?_
    refine h_iconst (0 : Int32) dL_mercy_1 k_iconst_0 ?_
    refine h_aload_n dL_mercy_2 rfl ?_
    refine h_iload_n dL_mercy_3 rfl ?_
    refine h_cVi [.inl v1] (m_X7_mercy hy) cw_L_77 dL_mercy_4 rfl ok_7 (by decide) rfl (Or.inr rfl) rfl ?_
    refine h_i2l dL_mercy_7 ?_
    refine h_last dL_mercy_8 rfl ?_
    refine h_nmO (O' := vp_updL O 0 q.1.toInt64) rfl ?_
    refine h_goto (tgt := 15) dL_mercy_9 (by decide) ?_
    refine h_iconst (0 : Int32) dL_mercy_15 k_iconst_0 ?_
    exact h_iret dL_mercy_16 rfl E
  | Sum.inr e, hy, h =>
    dsimp only at h
    by_cases e1 : e = 1
    · rw [if_pos e1] at h
      subst e1
      cases h
      refine meth_W (own := RL) (Nat.le_succ _) (by decide) rfl (Nat.le_of_ble_eq_true rfl) rfl (fun X Q hX E => ?_)
      refine h_aload_n dL_mercy_0 rfl ?_
      refine h_iconst (0 : Int32) dL_mercy_1 k_iconst_0 ?_
      refine h_aload_n dL_mercy_2 rfl ?_
      refine h_iload_n dL_mercy_3 rfl ?_
      exact h_callC (as := [.inl v1]) hX (mx_X7_mercy hy) cw_L_77 dL_mercy_4 rfl ok_7 (by decide) rfl rfl tk_L_mercy_1 rfl 3 1 (by decide) (Or.inl ⟨3, rfl, rfl, dL_mercy_12⟩) dL_mercy_13 k_iconst_1 dL_mercy_14 E
    · rw [if_neg e1] at h
      cases h
def f_L_deaf (I : Mem) (P : PMem) (O : Nat → Int64) (D : Bool) (n : Nat) (v1 : Int32) : Option (Int32 × Mem × PMem × (Nat → Int64) × Bool × Nat) :=
  (f_X7_deaf I P v1).bind fun y => match y with
  | Sum.inl q => some ((0 : Int32), q.2.1, q.2.2, vp_updL O 0 q.1.toInt64, D, n)
  | Sum.inr e => if e = 1 then some ((1 : Int32), I, P, O, D, n + 1) else none
theorem wW_L_deaf : Cond.codeWith yL_deaf cL_deaf 4 (some .int) [(0, 9, 12, 18)] ∈ GW := GW_at 1132 (by decide +kernel) (by decide +kernel)
theorem cx_L_189 : CWW RL 189 yL_deaf cL_deaf 4 (some .int) [(0, 9, 12, 18)] 3 := CWW.mk ml_L_189 wT_L_deaf wN_L wW_L_deaf (by decide +kernel) (by decide)
theorem tk_L_deaf_1 : Takes9 RL [(0, 9, 12, 18)] 4 1 12 := ⟨[], (⟨0, 9, 12, 18⟩ : ExceptionTableEntry), [], rfl, (fun z hz => by cases hz), by decide, by decide, wl_18, rfl⟩
theorem m_L_deaf {I : Mem} {P : PMem} {O : Nat → Int64} {D : Bool} {n : Nat} {v1 : Int32} {r : (Int32 × Mem × PMem × (Nat → Int64) × Bool × Nat)} (h : f_L_deaf I P O D n v1 = some r) : MethW yL_deaf cL_deaf 4 (some .int) [(0, 9, 12, 18)] 10 [.inr (.inr (7, 0, 0)), .inl v1, .inr (.inr (86, 0, 0))] I P O D n (some (.inl r.1)) r.2.1 r.2.2.1 r.2.2.2.1 r.2.2.2.2.1 r.2.2.2.2.2 := by
  obtain ⟨y, hy, h⟩ := obd_some h
  match y, hy, h with
  | Sum.inl q, hy, h =>
    cases h
    refine meth_W (own := RL) (Nat.le_refl _) (by decide) rfl (Nat.le_of_ble_eq_true rfl) rfl (fun X Q hX E => ?_)
    refine h_aload_n dL_deaf_0 rfl ?_
    refine h_iconst (0 : Int32) dL_deaf_1 k_iconst_0 ?_
    refine h_aload_n dL_deaf_2 rfl ?_
    refine h_iload_n dL_deaf_3 rfl ?_
    refine h_cVi [.inl v1] (m_X7_deaf hy) cw_L_80 dL_deaf_4 rfl ok_7 (by decide) rfl (Or.inr rfl) rfl ?_
    refine h_i2l dL_deaf_7 ?_
    refine h_last dL_deaf_8 rfl ?_
    refine h_nmO (O' := vp_updL O 0 q.1.toInt64) rfl ?_
    refine h_goto (tgt := 15) dL_deaf_9 (by decide) ?_
    refine h_iconst (0 : Int32) dL_deaf_15 k_iconst_0 ?_
    exact h_iret dL_deaf_16 rfl E
  | Sum.inr e, hy, h =>
    dsimp only at h
    by_cases e1 : e = 1
    · rw [if_pos e1] at h
      subst e1
      cases h
      refine meth_W (own := RL) (Nat.le_succ _) (by decide) rfl (Nat.le_of_ble_eq_true rfl) rfl (fun X Q hX E => ?_)
      refine h_aload_n dL_deaf_0 rfl ?_
      refine h_iconst (0 : Int32) dL_deaf_1 k_iconst_0 ?_
      refine h_aload_n dL_deaf_2 rfl ?_
      refine h_iload_n dL_deaf_3 rfl ?_
      exact h_callC (as := [.inl v1]) hX (mx_X7_deaf hy) cw_L_80 dL_deaf_4 rfl ok_7 (by decide) rfl rfl tk_L_deaf_1 rfl 3 1 (by decide) (Or.inl ⟨3, rfl, rfl, dL_deaf_12⟩) dL_deaf_13 k_iconst_1 dL_deaf_14 E
    · rw [if_neg e1] at h
      cases h
def f_L_soonest (I : Mem) (P : PMem) (O : Nat → Int64) (D : Bool) (n : Nat) (v1 : Int32) : Option (Int32 × Mem × PMem × (Nat → Int64) × Bool × Nat) :=
  (f_X7_soonest I P v1).bind fun y => match y with
  | Sum.inl q => some ((0 : Int32), q.2.1, q.2.2, vp_updL O 0 q.1.toInt64, D, n)
  | Sum.inr e => if e = 1 then some ((1 : Int32), I, P, O, D, n + 1) else none
theorem wW_L_soonest : Cond.codeWith yL_soonest cL_soonest 4 (some .int) [(0, 9, 12, 18)] ∈ GW := GW_at 1139 (by decide +kernel) (by decide +kernel)
theorem cx_L_192 : CWW RL 192 yL_soonest cL_soonest 4 (some .int) [(0, 9, 12, 18)] 3 := CWW.mk ml_L_192 wT_L_soonest wN_L wW_L_soonest (by decide +kernel) (by decide)
theorem tk_L_soonest_1 : Takes9 RL [(0, 9, 12, 18)] 4 1 12 := ⟨[], (⟨0, 9, 12, 18⟩ : ExceptionTableEntry), [], rfl, (fun z hz => by cases hz), by decide, by decide, wl_18, rfl⟩
theorem m_L_soonest {I : Mem} {P : PMem} {O : Nat → Int64} {D : Bool} {n : Nat} {v1 : Int32} {r : (Int32 × Mem × PMem × (Nat → Int64) × Bool × Nat)} (h : f_L_soonest I P O D n v1 = some r) : MethW yL_soonest cL_soonest 4 (some .int) [(0, 9, 12, 18)] 10 [.inr (.inr (7, 0, 0)), .inl v1, .inr (.inr (86, 0, 0))] I P O D n (some (.inl r.1)) r.2.1 r.2.2.1 r.2.2.2.1 r.2.2.2.2.1 r.2.2.2.2.2 := by
  obtain ⟨y, hy, h⟩ := obd_some h
  match y, hy, h with
  | Sum.inl q, hy, h =>
    cases h
    refine meth_W (own := RL) (Nat.le_refl _) (by decide) rfl (Nat.le_of_ble_eq_true rfl) rfl (fun X Q hX E => ?_)
    refine h_aload_n dL_soonest_0 rfl ?_
    refine h_iconst (0 : Int32) dL_soonest_1 k_iconst_0 ?_
    refine h_aload_n dL_soonest_2 rfl ?_
    refine h_iload_n dL_soonest_3 rfl ?_
    refine h_cVi [.inl v1] (m_X7_soonest hy) cw_L_83 dL_soonest_4 rfl ok_7 (by decide) rfl (Or.inr rfl) rfl ?_
    refine h_i2l dL_soonest_7 ?_
    refine h_last dL_soonest_8 rfl ?_
    refine h_nmO (O' := vp_updL O 0 q.1.toInt64) rfl ?_
    refine h_goto (tgt := 15) dL_soonest_9 (by decide) ?_
    refine h_iconst (0 : Int32) dL_soonest_15 k_iconst_0 ?_
    exact h_iret dL_soonest_16 rfl E
  | Sum.inr e, hy, h =>
    dsimp only at h
    by_cases e1 : e = 1
    · rw [if_pos e1] at h
      subst e1
      cases h
      refine meth_W (own := RL) (Nat.le_succ _) (by decide) rfl (Nat.le_of_ble_eq_true rfl) rfl (fun X Q hX E => ?_)
      refine h_aload_n dL_soonest_0 rfl ?_
      refine h_iconst (0 : Int32) dL_soonest_1 k_iconst_0 ?_
      refine h_aload_n dL_soonest_2 rfl ?_
      refine h_iload_n dL_soonest_3 rfl ?_
      exact h_callC (as := [.inl v1]) hX (mx_X7_soonest hy) cw_L_83 dL_soonest_4 rfl ok_7 (by decide) rfl rfl tk_L_soonest_1 rfl 3 1 (by decide) (Or.inl ⟨3, rfl, rfl, dL_soonest_12⟩) dL_soonest_13 k_iconst_1 dL_soonest_14 E
    · rw [if_neg e1] at h
      cases h
def f_L_see (I : Mem) (P : PMem) (O : Nat → Int64) (D : Bool) (n : Nat) (v1 : Int32) (v2 : Int32) (v3 : Int32) : Option (Int32 × Mem × PMem × (Nat → Int64) × Bool × Nat) :=
  (f_X7_see P I v1 v2 v3).bind fun y => match y with
  | Sum.inl q => some ((0 : Int32), q.2, P, vp_updL O 0 q.1.toInt64, D, n)
  | Sum.inr e => if e = 1 then some ((1 : Int32), I, P, O, D, n + 1) else none
theorem wW_L_see : Cond.codeWith yL_see cL_see 6 (some .int) [(0, 12, 15, 18)] ∈ GW := GW_at 1146 (by decide +kernel) (by decide +kernel)
theorem cx_L_195 : CWW RL 195 yL_see cL_see 6 (some .int) [(0, 12, 15, 18)] 5 := CWW.mk ml_L_195 wT_L_see wN_L wW_L_see (by decide +kernel) (by decide)
theorem tk_L_see_1 : Takes9 RL [(0, 12, 15, 18)] 7 1 15 := ⟨[], (⟨0, 12, 15, 18⟩ : ExceptionTableEntry), [], rfl, (fun z hz => by cases hz), by decide, by decide, wl_18, rfl⟩
theorem m_L_see {I : Mem} {P : PMem} {O : Nat → Int64} {D : Bool} {n : Nat} {v1 : Int32} {v2 : Int32} {v3 : Int32} {r : (Int32 × Mem × PMem × (Nat → Int64) × Bool × Nat)} (h : f_L_see I P O D n v1 v2 v3 = some r) : MethW yL_see cL_see 6 (some .int) [(0, 12, 15, 18)] 10 [.inr (.inr (7, 0, 0)), .inl v1, .inl v2, .inl v3, .inr (.inr (86, 0, 0))] I P O D n (some (.inl r.1)) r.2.1 r.2.2.1 r.2.2.2.1 r.2.2.2.2.1 r.2.2.2.2.2 := by
  obtain ⟨y, hy, h⟩ := obd_some h
  match y, hy, h with
  | Sum.inl q, hy, h =>
    cases h
    refine meth_W (own := RL) (Nat.le_refl _) (by decide) rfl (Nat.le_of_ble_eq_true rfl) rfl (fun X Q hX E => ?_)
    refine h_aload dL_see_0 rfl ?_
    refine h_iconst (0 : Int32) dL_see_2 k_iconst_0 ?_
    refine h_aload_n dL_see_3 rfl ?_
    refine h_iload_n dL_see_4 rfl ?_
    refine h_iload_n dL_see_5 rfl ?_
    refine h_iload_n dL_see_6 rfl ?_
    refine h_cVi [.inl v1, .inl v2, .inl v3] (m_X7_see hy) cw_L_86 dL_see_7 rfl ok_7 (by decide) rfl (Or.inr rfl) rfl ?_
    refine h_i2l dL_see_10 ?_
    refine h_last dL_see_11 rfl ?_
    refine h_nmO (O' := vp_updL O 0 q.1.toInt64) rfl ?_
    refine h_goto (tgt := 19) dL_see_12 (by decide) ?_
    refine h_iconst (0 : Int32) dL_see_19 k_iconst_0 ?_
    exact h_iret dL_see_20 rfl E
  | Sum.inr e, hy, h =>
    dsimp only at h
    by_cases e1 : e = 1
    · rw [if_pos e1] at h
      subst e1
      cases h
      refine meth_W (own := RL) (Nat.le_succ _) (by decide) rfl (Nat.le_of_ble_eq_true rfl) rfl (fun X Q hX E => ?_)
      refine h_aload dL_see_0 rfl ?_
      refine h_iconst (0 : Int32) dL_see_2 k_iconst_0 ?_
      refine h_aload_n dL_see_3 rfl ?_
      refine h_iload_n dL_see_4 rfl ?_
      refine h_iload_n dL_see_5 rfl ?_
      refine h_iload_n dL_see_6 rfl ?_
      exact h_callC (as := [.inl v1, .inl v2, .inl v3]) hX (mx_X7_see hy) cw_L_86 dL_see_7 rfl ok_7 (by decide) rfl rfl tk_L_see_1 rfl 5 2 (by decide) (Or.inr ⟨rfl, dL_see_15⟩) dL_see_17 k_iconst_1 dL_see_18 E
    · rw [if_neg e1] at h
      cases h
def f_L_sent (I : Mem) (P : PMem) (O : Nat → Int64) (D : Bool) (n : Nat) (v1 : Int32) (v2 : Int32) : Option (Int32 × Mem × PMem × (Nat → Int64) × Bool × Nat) :=
  (f_X7_sent I P v1 v2).bind fun y => match y with
  | Sum.inl q => some ((0 : Int32), q.2.1, q.2.2, vp_updL O 0 q.1.toInt64, D, n)
  | Sum.inr e => if e = 1 then some ((1 : Int32), I, P, O, D, n + 1) else none
theorem wW_L_sent : Cond.codeWith yL_sent cL_sent 5 (some .int) [(0, 10, 13, 18)] ∈ GW := GW_at 1153 (by decide +kernel) (by decide +kernel)
theorem cx_L_203 : CWW RL 203 yL_sent cL_sent 5 (some .int) [(0, 10, 13, 18)] 4 := CWW.mk ml_L_203 wT_L_sent wN_L wW_L_sent (by decide +kernel) (by decide)
theorem tk_L_sent_1 : Takes9 RL [(0, 10, 13, 18)] 5 1 13 := ⟨[], (⟨0, 10, 13, 18⟩ : ExceptionTableEntry), [], rfl, (fun z hz => by cases hz), by decide, by decide, wl_18, rfl⟩
theorem m_L_sent {I : Mem} {P : PMem} {O : Nat → Int64} {D : Bool} {n : Nat} {v1 : Int32} {v2 : Int32} {r : (Int32 × Mem × PMem × (Nat → Int64) × Bool × Nat)} (h : f_L_sent I P O D n v1 v2 = some r) : MethW yL_sent cL_sent 5 (some .int) [(0, 10, 13, 18)] 10 [.inr (.inr (7, 0, 0)), .inl v1, .inl v2, .inr (.inr (86, 0, 0))] I P O D n (some (.inl r.1)) r.2.1 r.2.2.1 r.2.2.2.1 r.2.2.2.2.1 r.2.2.2.2.2 := by
  obtain ⟨y, hy, h⟩ := obd_some h
  match y, hy, h with
  | Sum.inl q, hy, h =>
    cases h
    refine meth_W (own := RL) (Nat.le_refl _) (by decide) rfl (Nat.le_of_ble_eq_true rfl) rfl (fun X Q hX E => ?_)
    refine h_aload_n dL_sent_0 rfl ?_
    refine h_iconst (0 : Int32) dL_sent_1 k_iconst_0 ?_
    refine h_aload_n dL_sent_2 rfl ?_
    refine h_iload_n dL_sent_3 rfl ?_
    refine h_iload_n dL_sent_4 rfl ?_
    refine h_cVi [.inl v1, .inl v2] (m_X7_sent hy) cw_L_90 dL_sent_5 rfl ok_7 (by decide) rfl (Or.inr rfl) rfl ?_
    refine h_i2l dL_sent_8 ?_
    refine h_last dL_sent_9 rfl ?_
    refine h_nmO (O' := vp_updL O 0 q.1.toInt64) rfl ?_
    refine h_goto (tgt := 17) dL_sent_10 (by decide) ?_
    refine h_iconst (0 : Int32) dL_sent_17 k_iconst_0 ?_
    exact h_iret dL_sent_18 rfl E
  | Sum.inr e, hy, h =>
    dsimp only at h
    by_cases e1 : e = 1
    · rw [if_pos e1] at h
      subst e1
      cases h
      refine meth_W (own := RL) (Nat.le_succ _) (by decide) rfl (Nat.le_of_ble_eq_true rfl) rfl (fun X Q hX E => ?_)
      refine h_aload_n dL_sent_0 rfl ?_
      refine h_iconst (0 : Int32) dL_sent_1 k_iconst_0 ?_
      refine h_aload_n dL_sent_2 rfl ?_
      refine h_iload_n dL_sent_3 rfl ?_
      refine h_iload_n dL_sent_4 rfl ?_
      exact h_callC (as := [.inl v1, .inl v2]) hX (mx_X7_sent hy) cw_L_90 dL_sent_5 rfl ok_7 (by decide) rfl rfl tk_L_sent_1 rfl 4 2 (by decide) (Or.inr ⟨rfl, dL_sent_13⟩) dL_sent_15 k_iconst_1 dL_sent_16 E
    · rw [if_neg e1] at h
      cases h
def f_L_game (I : Mem) (P : PMem) (O : Nat → Int64) (D : Bool) (n : Nat) (v1 : Int32) (v2 : Int32) : Option (Int32 × Mem × PMem × (Nat → Int64) × Bool × Nat) :=
  (f_X7_game I P v1 v2).bind fun y => match y with
  | Sum.inl q => some ((0 : Int32), q.2.1, q.2.2, vp_updL O 0 q.1.toInt64, D, n)
  | Sum.inr e => if e = 1 then some ((1 : Int32), I, P, O, D, n + 1) else none
theorem wW_L_game : Cond.codeWith yL_game cL_game 5 (some .int) [(0, 10, 13, 18)] ∈ GW := GW_at 1164 (by decide +kernel) (by decide +kernel)
theorem cx_L_206 : CWW RL 206 yL_game cL_game 5 (some .int) [(0, 10, 13, 18)] 4 := CWW.mk ml_L_206 wT_L_game wN_L wW_L_game (by decide +kernel) (by decide)
theorem tk_L_game_1 : Takes9 RL [(0, 10, 13, 18)] 5 1 13 := ⟨[], (⟨0, 10, 13, 18⟩ : ExceptionTableEntry), [], rfl, (fun z hz => by cases hz), by decide, by decide, wl_18, rfl⟩
theorem m_L_game {I : Mem} {P : PMem} {O : Nat → Int64} {D : Bool} {n : Nat} {v1 : Int32} {v2 : Int32} {r : (Int32 × Mem × PMem × (Nat → Int64) × Bool × Nat)} (h : f_L_game I P O D n v1 v2 = some r) : MethW yL_game cL_game 5 (some .int) [(0, 10, 13, 18)] 10 [.inr (.inr (7, 0, 0)), .inl v1, .inl v2, .inr (.inr (86, 0, 0))] I P O D n (some (.inl r.1)) r.2.1 r.2.2.1 r.2.2.2.1 r.2.2.2.2.1 r.2.2.2.2.2 := by
  obtain ⟨y, hy, h⟩ := obd_some h
  match y, hy, h with
  | Sum.inl q, hy, h =>
    cases h
    refine meth_W (own := RL) (Nat.le_refl _) (by decide) rfl (Nat.le_of_ble_eq_true rfl) rfl (fun X Q hX E => ?_)
    refine h_aload_n dL_game_0 rfl ?_
    refine h_iconst (0 : Int32) dL_game_1 k_iconst_0 ?_
    refine h_aload_n dL_game_2 rfl ?_
    refine h_iload_n dL_game_3 rfl ?_
    refine h_iload_n dL_game_4 rfl ?_
    refine h_cVi [.inl v1, .inl v2] (m_X7_game hy) cw_L_93 dL_game_5 rfl ok_7 (by decide) rfl (Or.inr rfl) rfl ?_
    refine h_i2l dL_game_8 ?_
    refine h_last dL_game_9 rfl ?_
    refine h_nmO (O' := vp_updL O 0 q.1.toInt64) rfl ?_
    refine h_goto (tgt := 17) dL_game_10 (by decide) ?_
    refine h_iconst (0 : Int32) dL_game_17 k_iconst_0 ?_
    exact h_iret dL_game_18 rfl E
  | Sum.inr e, hy, h =>
    dsimp only at h
    by_cases e1 : e = 1
    · rw [if_pos e1] at h
      subst e1
      cases h
      refine meth_W (own := RL) (Nat.le_succ _) (by decide) rfl (Nat.le_of_ble_eq_true rfl) rfl (fun X Q hX E => ?_)
      refine h_aload_n dL_game_0 rfl ?_
      refine h_iconst (0 : Int32) dL_game_1 k_iconst_0 ?_
      refine h_aload_n dL_game_2 rfl ?_
      refine h_iload_n dL_game_3 rfl ?_
      refine h_iload_n dL_game_4 rfl ?_
      exact h_callC (as := [.inl v1, .inl v2]) hX (mx_X7_game hy) cw_L_93 dL_game_5 rfl ok_7 (by decide) rfl rfl tk_L_game_1 rfl 4 2 (by decide) (Or.inr ⟨rfl, dL_game_13⟩) dL_game_15 k_iconst_1 dL_game_16 E
    · rw [if_neg e1] at h
      cases h
def f_L_season (I : Mem) (P : PMem) (O : Nat → Int64) (D : Bool) (n : Nat) (v1 : Int32) (v2 : Int32) (v3 : Int32) : Option (Int32 × Mem × PMem × (Nat → Int64) × Bool × Nat) :=
  (f_X7_season I P v1 v2 v3).bind fun y => match y with
  | Sum.inl q => some ((0 : Int32), q.2.1, q.2.2, vp_updL O 0 q.1.toInt64, true, (n + 1))
  | Sum.inr e => if e = 0 then some ((2 : Int32), I, P, O, D, n + 1) else if e = 1 then some ((1 : Int32), I, P, O, D, n + 1) else none
theorem wW_L_season : Cond.codeWith yL_season cL_season 6 (some .int) [(0, 12, 15, 18), (0, 12, 19, 13)] ∈ GW := GW_at 1179 (by decide +kernel) (by decide +kernel)
theorem cx_L_209 : CWW RL 209 yL_season cL_season 6 (some .int) [(0, 12, 15, 18), (0, 12, 19, 13)] 5 := CWW.mk ml_L_209 wT_L_season wN_L wW_L_season (by decide +kernel) (by decide)
theorem tk_L_season_0 : Takes9 RL [(0, 12, 15, 18), (0, 12, 19, 13)] 7 0 19 := ⟨[(⟨0, 12, 15, 18⟩ : ExceptionTableEntry)], (⟨0, 12, 19, 13⟩ : ExceptionTableEntry), [], rfl, (fun z hz => by
    rcases List.mem_cons.mp hz with rfl | h
    · exact ⟨by decide, rfl, wl_18⟩
    · cases h), by decide, by decide, wl_13, rfl⟩
theorem tk_L_season_1 : Takes9 RL [(0, 12, 15, 18), (0, 12, 19, 13)] 7 1 15 := ⟨[], (⟨0, 12, 15, 18⟩ : ExceptionTableEntry), [(⟨0, 12, 19, 13⟩ : ExceptionTableEntry)], rfl, (fun z hz => by cases hz), by decide, by decide, wl_18, rfl⟩
theorem m_L_season {I : Mem} {P : PMem} {O : Nat → Int64} {D : Bool} {n : Nat} {v1 : Int32} {v2 : Int32} {v3 : Int32} {r : (Int32 × Mem × PMem × (Nat → Int64) × Bool × Nat)} (h : f_L_season I P O D n v1 v2 v3 = some r) : MethW yL_season cL_season 6 (some .int) [(0, 12, 15, 18), (0, 12, 19, 13)] 10 [.inr (.inr (7, 0, 0)), .inl v1, .inl v2, .inl v3, .inr (.inr (86, 0, 0))] I P O D n (some (.inl r.1)) r.2.1 r.2.2.1 r.2.2.2.1 r.2.2.2.2.1 r.2.2.2.2.2 := by
  obtain ⟨y, hy, h⟩ := obd_some h
  match y, hy, h with
  | Sum.inl q, hy, h =>
    cases h
    refine meth_W (own := RL) (Nat.le_succ _) (by decide) rfl (Nat.le_of_ble_eq_true rfl) rfl (fun X Q hX E => ?_)
    refine h_aload dL_season_0 rfl ?_
    refine h_iconst (0 : Int32) dL_season_2 k_iconst_0 ?_
    refine h_aload_n dL_season_3 rfl ?_
    refine h_iload_n dL_season_4 rfl ?_
    refine h_iload_n dL_season_5 rfl ?_
    refine h_iload_n dL_season_6 rfl ?_
    refine h_cVi [.inl v1, .inl v2, .inl v3] (m_X7_season hy) cw_L_96 dL_season_7 rfl ok_7 (by decide) rfl (Or.inl rfl) rfl ?_
    refine h_i2l dL_season_10 ?_
    refine h_last dL_season_11 rfl ?_
    refine h_nmO (O' := vp_updL O 0 q.1.toInt64) rfl ?_
    refine h_goto (tgt := 23) dL_season_12 (by decide) ?_
    refine h_iconst (0 : Int32) dL_season_23 k_iconst_0 ?_
    exact h_iret dL_season_24 rfl E
  | Sum.inr e, hy, h =>
    dsimp only at h
    by_cases e0 : e = 0
    · rw [if_pos e0] at h
      subst e0
      cases h
      refine meth_W (own := RL) (Nat.le_succ _) (by decide) rfl (Nat.le_of_ble_eq_true rfl) rfl (fun X Q hX E => ?_)
      refine h_aload dL_season_0 rfl ?_
      refine h_iconst (0 : Int32) dL_season_2 k_iconst_0 ?_
      refine h_aload_n dL_season_3 rfl ?_
      refine h_iload_n dL_season_4 rfl ?_
      refine h_iload_n dL_season_5 rfl ?_
      refine h_iload_n dL_season_6 rfl ?_
      exact h_callC (as := [.inl v1, .inl v2, .inl v3]) hX (mx_X7_season hy) cw_L_96 dL_season_7 rfl ok_7 (by decide) rfl rfl tk_L_season_0 rfl 5 2 (by decide) (Or.inr ⟨rfl, dL_season_19⟩) dL_season_21 k_iconst_2 dL_season_22 E
    · rw [if_neg e0] at h
      by_cases e1 : e = 1
      · rw [if_pos e1] at h
        subst e1
        cases h
        refine meth_W (own := RL) (Nat.le_succ _) (by decide) rfl (Nat.le_of_ble_eq_true rfl) rfl (fun X Q hX E => ?_)
        refine h_aload dL_season_0 rfl ?_
        refine h_iconst (0 : Int32) dL_season_2 k_iconst_0 ?_
        refine h_aload_n dL_season_3 rfl ?_
        refine h_iload_n dL_season_4 rfl ?_
        refine h_iload_n dL_season_5 rfl ?_
        refine h_iload_n dL_season_6 rfl ?_
        exact h_callC (as := [.inl v1, .inl v2, .inl v3]) hX (mx_X7_season hy) cw_L_96 dL_season_7 rfl ok_7 (by decide) rfl rfl tk_L_season_1 rfl 5 2 (by decide) (Or.inr ⟨rfl, dL_season_15⟩) dL_season_17 k_iconst_1 dL_season_18 E
      · rw [if_neg e1] at h
        cases h
