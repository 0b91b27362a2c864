theorem dX7_far_0 : decode cX7_far 0 = .ok (.aload_n 0, 1) := by decide +kernel
theorem dX7_far_1 : decode cX7_far 1 = .ok (.iload_n 1, 1) := by decide +kernel
theorem dX7_far_2 : decode cX7_far 2 = .ok (.invokevirtual 149, 3) := by decide +kernel
theorem dX7_far_5 : decode cX7_far 5 = .ok (.aload_n 0, 1) := by decide +kernel
theorem dX7_far_6 : decode cX7_far 6 = .ok (.iload_n 2, 1) := by decide +kernel
theorem dX7_far_7 : decode cX7_far 7 = .ok (.invokevirtual 149, 3) := by decide +kernel
theorem dX7_far_10 : decode cX7_far 10 = .ok (.iload_n 3, 1) := by decide +kernel
theorem dX7_far_11 : decode cX7_far 11 = .ok (.iconst 1, 1) := by decide +kernel
theorem dX7_far_12 : decode cX7_far 12 = .ok (.invokestatic 152, 3) := by decide +kernel
theorem dX7_far_15 : decode cX7_far 15 = .ok (.iload_n 3, 1) := by decide +kernel
theorem dX7_far_16 : decode cX7_far 16 = .ok (.ifCond .ne 17, 3) := by decide +kernel
theorem dX7_far_19 : decode cX7_far 19 = .ok (.aload_n 0, 1) := by decide +kernel
theorem dX7_far_20 : decode cX7_far 20 = .ok (.getfield 16, 3) := by decide +kernel
theorem dX7_far_23 : decode cX7_far 23 = .ok (.getfield 156, 3) := by decide +kernel
theorem dX7_far_26 : decode cX7_far 26 = .ok (.iload_n 1, 1) := by decide +kernel
theorem dX7_far_27 : decode cX7_far 27 = .ok (.aaload, 1) := by decide +kernel
theorem dX7_far_28 : decode cX7_far 28 = .ok (.iload_n 2, 1) := by decide +kernel
theorem dX7_far_29 : decode cX7_far 29 = .ok (.iaload, 1) := by decide +kernel
theorem dX7_far_30 : decode cX7_far 30 = .ok (.goto 14, 3) := by decide +kernel
theorem dX7_far_33 : decode cX7_far 33 = .ok (.aload_n 0, 1) := by decide +kernel
theorem dX7_far_34 : decode cX7_far 34 = .ok (.getfield 16, 3) := by decide +kernel
theorem dX7_far_37 : decode cX7_far 37 = .ok (.getfield 160, 3) := by decide +kernel
theorem dX7_far_40 : decode cX7_far 40 = .ok (.iload_n 1, 1) := by decide +kernel
theorem dX7_far_41 : decode cX7_far 41 = .ok (.aaload, 1) := by decide +kernel
theorem dX7_far_42 : decode cX7_far 42 = .ok (.iload_n 2, 1) := by decide +kernel
theorem dX7_far_43 : decode cX7_far 43 = .ok (.iaload, 1) := by decide +kernel
theorem dX7_far_44 : decode cX7_far 44 = .ok (.ireturn, 1) := by decide +kernel
theorem dX7_requireJudge_0 : decode cX7_requireJudge 0 = .ok (.iload_n 1, 1) := by decide +kernel
theorem dX7_requireJudge_1 : decode cX7_requireJudge 1 = .ok (.ifCond .lt 14, 3) := by decide +kernel
theorem dX7_requireJudge_4 : decode cX7_requireJudge 4 = .ok (.iload_n 1, 1) := by decide +kernel
theorem dX7_requireJudge_5 : decode cX7_requireJudge 5 = .ok (.aload_n 0, 1) := by decide +kernel
theorem dX7_requireJudge_6 : decode cX7_requireJudge 6 = .ok (.getfield 16, 3) := by decide +kernel
theorem dX7_requireJudge_9 : decode cX7_requireJudge 9 = .ok (.getfield 107, 3) := by decide +kernel
theorem dX7_requireJudge_12 : decode cX7_requireJudge 12 = .ok (.if_icmp .lt 14, 3) := by decide +kernel
theorem dX7_requireJudge_15 : decode cX7_requireJudge 15 = .ok (.new 144, 3) := by decide +kernel
theorem dX7_requireJudge_18 : decode cX7_requireJudge 18 = .ok (.dup, 1) := by decide +kernel
theorem dX7_requireJudge_19 : decode cX7_requireJudge 19 = .ok (.ldc_w 320, 3) := by decide +kernel
theorem dX7_requireJudge_22 : decode cX7_requireJudge 22 = .ok (.invokespecial 148, 3) := by decide +kernel
theorem dX7_requireJudge_25 : decode cX7_requireJudge 25 = .ok (.athrow, 1) := by decide +kernel
theorem dX7_requireJudge_26 : decode cX7_requireJudge 26 = .ok (.return_, 1) := by decide +kernel
theorem dX7_judge_0 : decode cX7_judge 0 = .ok (.aload_n 0, 1) := by decide +kernel
theorem dX7_judge_1 : decode cX7_judge 1 = .ok (.iload_n 1, 1) := by decide +kernel
theorem dX7_judge_2 : decode cX7_judge 2 = .ok (.invokevirtual 163, 3) := by decide +kernel
theorem dX7_judge_5 : decode cX7_judge 5 = .ok (.iload_n 2, 1) := by decide +kernel
theorem dX7_judge_6 : decode cX7_judge 6 = .ok (.iconst 4, 1) := by decide +kernel
theorem dX7_judge_7 : decode cX7_judge 7 = .ok (.invokestatic 152, 3) := by decide +kernel
theorem dX7_judge_10 : decode cX7_judge 10 = .ok (.iload_n 2, 1) := by decide +kernel
theorem dX7_judge_11 : decode cX7_judge 11 = .ok (.tableswitch 69 0 3 #[29, 39, 49, 59], 29) := by decide +kernel
theorem dX7_judge_40 : decode cX7_judge 40 = .ok (.aload_n 0, 1) := by decide +kernel
theorem dX7_judge_41 : decode cX7_judge 41 = .ok (.getfield 16, 3) := by decide +kernel
theorem dX7_judge_44 : decode cX7_judge 44 = .ok (.getfield 166, 3) := by decide +kernel
theorem dX7_judge_47 : decode cX7_judge 47 = .ok (.iload_n 1, 1) := by decide +kernel
theorem dX7_judge_48 : decode cX7_judge 48 = .ok (.iaload, 1) := by decide +kernel
theorem dX7_judge_49 : decode cX7_judge 49 = .ok (.ireturn, 1) := by decide +kernel
theorem dX7_judge_50 : decode cX7_judge 50 = .ok (.aload_n 0, 1) := by decide +kernel
theorem dX7_judge_51 : decode cX7_judge 51 = .ok (.getfield 35, 3) := by decide +kernel
theorem dX7_judge_54 : decode cX7_judge 54 = .ok (.getfield 169, 3) := by decide +kernel
theorem dX7_judge_57 : decode cX7_judge 57 = .ok (.iload_n 1, 1) := by decide +kernel
theorem dX7_judge_58 : decode cX7_judge 58 = .ok (.iaload, 1) := by decide +kernel
theorem dX7_judge_59 : decode cX7_judge 59 = .ok (.ireturn, 1) := by decide +kernel
theorem dX7_judge_60 : decode cX7_judge 60 = .ok (.aload_n 0, 1) := by decide +kernel
theorem dX7_judge_61 : decode cX7_judge 61 = .ok (.getfield 16, 3) := by decide +kernel
theorem dX7_judge_64 : decode cX7_judge 64 = .ok (.getfield 172, 3) := by decide +kernel
theorem dX7_judge_67 : decode cX7_judge 67 = .ok (.iload_n 1, 1) := by decide +kernel
theorem dX7_judge_68 : decode cX7_judge 68 = .ok (.iaload, 1) := by decide +kernel
theorem dX7_judge_69 : decode cX7_judge 69 = .ok (.ireturn, 1) := by decide +kernel
theorem dX7_judge_70 : decode cX7_judge 70 = .ok (.aload_n 0, 1) := by decide +kernel
theorem dX7_judge_71 : decode cX7_judge 71 = .ok (.getfield 16, 3) := by decide +kernel
theorem dX7_judge_74 : decode cX7_judge 74 = .ok (.getfield 175, 3) := by decide +kernel
theorem dX7_judge_77 : decode cX7_judge 77 = .ok (.iload_n 1, 1) := by decide +kernel
theorem dX7_judge_78 : decode cX7_judge 78 = .ok (.iaload, 1) := by decide +kernel
theorem dX7_judge_79 : decode cX7_judge 79 = .ok (.ireturn, 1) := by decide +kernel
theorem dX7_judge_80 : decode cX7_judge 80 = .ok (.aload_n 0, 1) := by decide +kernel
theorem dX7_judge_81 : decode cX7_judge 81 = .ok (.invokevirtual 131, 3) := by decide +kernel
theorem dX7_judge_84 : decode cX7_judge 84 = .ok (.iload_n 1, 1) := by decide +kernel
theorem dX7_judge_85 : decode cX7_judge 85 = .ok (.invokevirtual 178, 3) := by decide +kernel
theorem dX7_judge_88 : decode cX7_judge 88 = .ok (.ireturn, 1) := by decide +kernel
theorem dX7_stop_0 : decode cX7_stop 0 = .ok (.aload_n 0, 1) := by decide +kernel
theorem dX7_stop_1 : decode cX7_stop 1 = .ok (.iload_n 1, 1) := by decide +kernel
theorem dX7_stop_2 : decode cX7_stop 2 = .ok (.invokevirtual 163, 3) := by decide +kernel
theorem dX7_stop_5 : decode cX7_stop 5 = .ok (.iload_n 3, 1) := by decide +kernel
theorem dX7_stop_6 : decode cX7_stop 6 = .ok (.iconst 1, 1) := by decide +kernel
theorem dX7_stop_7 : decode cX7_stop 7 = .ok (.invokestatic 152, 3) := by decide +kernel
theorem dX7_stop_10 : decode cX7_stop 10 = .ok (.iload_n 2, 1) := by decide +kernel
theorem dX7_stop_11 : decode cX7_stop 11 = .ok (.ifCond .lt 16, 3) := by decide +kernel
theorem dX7_stop_14 : decode cX7_stop 14 = .ok (.iload_n 2, 1) := by decide +kernel
theorem dX7_stop_15 : decode cX7_stop 15 = .ok (.aload_n 0, 1) := by decide +kernel
theorem dX7_stop_16 : decode cX7_stop 16 = .ok (.getfield 16, 3) := by decide +kernel
theorem dX7_stop_19 : decode cX7_stop 19 = .ok (.getfield 175, 3) := by decide +kernel
theorem dX7_stop_22 : decode cX7_stop 22 = .ok (.iload_n 1, 1) := by decide +kernel
theorem dX7_stop_23 : decode cX7_stop 23 = .ok (.iaload, 1) := by decide +kernel
theorem dX7_stop_24 : decode cX7_stop 24 = .ok (.if_icmp .lt 13, 3) := by decide +kernel
theorem dX7_stop_27 : decode cX7_stop 27 = .ok (.new 144, 3) := by decide +kernel
theorem dX7_stop_30 : decode cX7_stop 30 = .ok (.dup, 1) := by decide +kernel
theorem dX7_stop_31 : decode cX7_stop 31 = .ok (.ldc 182, 2) := by decide +kernel
theorem dX7_stop_33 : decode cX7_stop 33 = .ok (.invokespecial 148, 3) := by decide +kernel
theorem dX7_stop_36 : decode cX7_stop 36 = .ok (.athrow, 1) := by decide +kernel
theorem dX7_stop_37 : decode cX7_stop 37 = .ok (.iload_n 3, 1) := by decide +kernel
theorem dX7_stop_38 : decode cX7_stop 38 = .ok (.ifCond .ne 17, 3) := by decide +kernel
theorem dX7_stop_41 : decode cX7_stop 41 = .ok (.aload_n 0, 1) := by decide +kernel
theorem dX7_stop_42 : decode cX7_stop 42 = .ok (.getfield 16, 3) := by decide +kernel
theorem dX7_stop_45 : decode cX7_stop 45 = .ok (.getfield 184, 3) := by decide +kernel
theorem dX7_stop_48 : decode cX7_stop 48 = .ok (.iload_n 1, 1) := by decide +kernel
theorem dX7_stop_49 : decode cX7_stop 49 = .ok (.aaload, 1) := by decide +kernel
theorem dX7_stop_50 : decode cX7_stop 50 = .ok (.iload_n 2, 1) := by decide +kernel
theorem dX7_stop_51 : decode cX7_stop 51 = .ok (.iaload, 1) := by decide +kernel
theorem dX7_stop_52 : decode cX7_stop 52 = .ok (.goto 14, 3) := by decide +kernel
theorem dX7_stop_55 : decode cX7_stop 55 = .ok (.aload_n 0, 1) := by decide +kernel
theorem dX7_stop_56 : decode cX7_stop 56 = .ok (.invokevirtual 131, 3) := by decide +kernel
theorem dX7_stop_59 : decode cX7_stop 59 = .ok (.getfield 187, 3) := by decide +kernel
theorem dX7_stop_62 : decode cX7_stop 62 = .ok (.iload_n 1, 1) := by decide +kernel
theorem dX7_stop_63 : decode cX7_stop 63 = .ok (.aaload, 1) := by decide +kernel
theorem dX7_stop_64 : decode cX7_stop 64 = .ok (.iload_n 2, 1) := by decide +kernel
theorem dX7_stop_65 : decode cX7_stop 65 = .ok (.iaload, 1) := by decide +kernel
theorem dX7_stop_66 : decode cX7_stop 66 = .ok (.ireturn, 1) := by decide +kernel
theorem dX7_where_0 : decode cX7_where 0 = .ok (.aload_n 0, 1) := by decide +kernel
theorem dX7_where_1 : decode cX7_where 1 = .ok (.iload_n 1, 1) := by decide +kernel
theorem dX7_where_2 : decode cX7_where 2 = .ok (.invokevirtual 163, 3) := by decide +kernel
theorem dX7_where_5 : decode cX7_where 5 = .ok (.aload_n 0, 1) := by decide +kernel
theorem dX7_where_6 : decode cX7_where 6 = .ok (.invokevirtual 131, 3) := by decide +kernel
theorem dX7_where_9 : decode cX7_where 9 = .ok (.iload_n 1, 1) := by decide +kernel
theorem dX7_where_10 : decode cX7_where 10 = .ok (.iload_n 2, 1) := by decide +kernel
theorem dX7_where_11 : decode cX7_where 11 = .ok (.invokevirtual 190, 3) := by decide +kernel
theorem dX7_where_14 : decode cX7_where 14 = .ok (.ireturn, 1) := by decide +kernel
theorem dX7_requireCase_0 : decode cX7_requireCase 0 = .ok (.iload_n 1, 1) := by decide +kernel
theorem dX7_requireCase_1 : decode cX7_requireCase 1 = .ok (.ifCond .lt 14, 3) := by decide +kernel
theorem dX7_requireCase_4 : decode cX7_requireCase 4 = .ok (.iload_n 1, 1) := by decide +kernel
theorem dX7_requireCase_5 : decode cX7_requireCase 5 = .ok (.aload_n 0, 1) := by decide +kernel
theorem dX7_requireCase_6 : decode cX7_requireCase 6 = .ok (.getfield 16, 3) := by decide +kernel
theorem dX7_requireCase_9 : decode cX7_requireCase 9 = .ok (.getfield 110, 3) := by decide +kernel
theorem dX7_requireCase_12 : decode cX7_requireCase 12 = .ok (.if_icmp .lt 14, 3) := by decide +kernel
theorem dX7_requireCase_15 : decode cX7_requireCase 15 = .ok (.new 144, 3) := by decide +kernel
theorem dX7_requireCase_18 : decode cX7_requireCase 18 = .ok (.dup, 1) := by decide +kernel
theorem dX7_requireCase_19 : decode cX7_requireCase 19 = .ok (.ldc_w 322, 3) := by decide +kernel
theorem dX7_requireCase_22 : decode cX7_requireCase 22 = .ok (.invokespecial 148, 3) := by decide +kernel
theorem dX7_requireCase_25 : decode cX7_requireCase 25 = .ok (.athrow, 1) := by decide +kernel
theorem dX7_requireCase_26 : decode cX7_requireCase 26 = .ok (.return_, 1) := by decide +kernel
theorem dX7_proof_0 : decode cX7_proof 0 = .ok (.aload_n 0, 1) := by decide +kernel
theorem dX7_proof_1 : decode cX7_proof 1 = .ok (.iload_n 1, 1) := by decide +kernel
theorem dX7_proof_2 : decode cX7_proof 2 = .ok (.invokevirtual 194, 3) := by decide +kernel
theorem dX7_proof_5 : decode cX7_proof 5 = .ok (.aload_n 0, 1) := by decide +kernel
theorem dX7_proof_6 : decode cX7_proof 6 = .ok (.iload_n 2, 1) := by decide +kernel
theorem dX7_proof_7 : decode cX7_proof 7 = .ok (.invokevirtual 149, 3) := by decide +kernel
theorem dX7_proof_10 : decode cX7_proof 10 = .ok (.aload_n 0, 1) := by decide +kernel
theorem dX7_proof_11 : decode cX7_proof 11 = .ok (.getfield 16, 3) := by decide +kernel
theorem dX7_proof_14 : decode cX7_proof 14 = .ok (.getfield 197, 3) := by decide +kernel
theorem dX7_proof_17 : decode cX7_proof 17 = .ok (.iload_n 1, 1) := by decide +kernel
theorem dX7_proof_18 : decode cX7_proof 18 = .ok (.aaload, 1) := by decide +kernel
theorem dX7_proof_19 : decode cX7_proof 19 = .ok (.iload_n 2, 1) := by decide +kernel
theorem dX7_proof_20 : decode cX7_proof 20 = .ok (.iaload, 1) := by decide +kernel
theorem dX7_proof_21 : decode cX7_proof 21 = .ok (.ireturn, 1) := by decide +kernel
theorem dX7_said_0 : decode cX7_said 0 = .ok (.aload_n 0, 1) := by decide +kernel
theorem dX7_said_1 : decode cX7_said 1 = .ok (.iload_n 1, 1) := by decide +kernel
theorem dX7_said_2 : decode cX7_said 2 = .ok (.invokevirtual 194, 3) := by decide +kernel
theorem dX7_said_5 : decode cX7_said 5 = .ok (.aload_n 0, 1) := by decide +kernel
theorem dX7_said_6 : decode cX7_said 6 = .ok (.iload_n 2, 1) := by decide +kernel
theorem dX7_said_7 : decode cX7_said 7 = .ok (.invokevirtual 163, 3) := by decide +kernel
theorem dX7_said_10 : decode cX7_said 10 = .ok (.iload_n 3, 1) := by decide +kernel
theorem dX7_said_11 : decode cX7_said 11 = .ok (.iconst 3, 1) := by decide +kernel
theorem dX7_said_12 : decode cX7_said 12 = .ok (.invokestatic 152, 3) := by decide +kernel
theorem dX7_said_15 : decode cX7_said 15 = .ok (.aload_n 0, 1) := by decide +kernel
theorem dX7_said_16 : decode cX7_said 16 = .ok (.invokevirtual 131, 3) := by decide +kernel
theorem dX7_said_19 : decode cX7_said 19 = .ok (.astore 4, 2) := by decide +kernel
theorem dX7_said_21 : decode cX7_said 21 = .ok (.iload_n 3, 1) := by decide +kernel
theorem dX7_said_22 : decode cX7_said 22 = .ok (.tableswitch 56 0 2 #[26, 36, 46], 26) := by decide +kernel
theorem dX7_said_48 : decode cX7_said 48 = .ok (.aload 4, 2) := by decide +kernel
theorem dX7_said_50 : decode cX7_said 50 = .ok (.getfield 200, 3) := by decide +kernel
theorem dX7_said_53 : decode cX7_said 53 = .ok (.iload_n 1, 1) := by decide +kernel
theorem dX7_said_54 : decode cX7_said 54 = .ok (.aaload, 1) := by decide +kernel
theorem dX7_said_55 : decode cX7_said 55 = .ok (.iload_n 2, 1) := by decide +kernel
theorem dX7_said_56 : decode cX7_said 56 = .ok (.iaload, 1) := by decide +kernel
theorem dX7_said_57 : decode cX7_said 57 = .ok (.ireturn, 1) := by decide +kernel
theorem dX7_said_58 : decode cX7_said 58 = .ok (.aload 4, 2) := by decide +kernel
theorem dX7_said_60 : decode cX7_said 60 = .ok (.getfield 203, 3) := by decide +kernel
theorem dX7_said_63 : decode cX7_said 63 = .ok (.iload_n 1, 1) := by decide +kernel
theorem dX7_said_64 : decode cX7_said 64 = .ok (.aaload, 1) := by decide +kernel
theorem dX7_said_65 : decode cX7_said 65 = .ok (.iload_n 2, 1) := by decide +kernel
theorem dX7_said_66 : decode cX7_said 66 = .ok (.iaload, 1) := by decide +kernel
theorem dX7_said_67 : decode cX7_said 67 = .ok (.ireturn, 1) := by decide +kernel
theorem dX7_said_68 : decode cX7_said 68 = .ok (.aload 4, 2) := by decide +kernel
theorem dX7_said_70 : decode cX7_said 70 = .ok (.getfield 206, 3) := by decide +kernel
theorem dX7_said_73 : decode cX7_said 73 = .ok (.iload_n 1, 1) := by decide +kernel
theorem dX7_said_74 : decode cX7_said 74 = .ok (.aaload, 1) := by decide +kernel
theorem dX7_said_75 : decode cX7_said 75 = .ok (.iload_n 2, 1) := by decide +kernel
theorem dX7_said_76 : decode cX7_said 76 = .ok (.iaload, 1) := by decide +kernel
theorem dX7_said_77 : decode cX7_said 77 = .ok (.ireturn, 1) := by decide +kernel
theorem dX7_said_78 : decode cX7_said 78 = .ok (.aload 4, 2) := by decide +kernel
theorem dX7_said_80 : decode cX7_said 80 = .ok (.iload_n 1, 1) := by decide +kernel
theorem dX7_said_81 : decode cX7_said 81 = .ok (.invokevirtual 209, 3) := by decide +kernel
theorem dX7_said_84 : decode cX7_said 84 = .ok (.iload_n 2, 1) := by decide +kernel
theorem dX7_said_85 : decode cX7_said 85 = .ok (.iushr, 1) := by decide +kernel
theorem dX7_said_86 : decode cX7_said 86 = .ok (.iconst 1, 1) := by decide +kernel
theorem dX7_said_87 : decode cX7_said 87 = .ok (.iand, 1) := by decide +kernel
theorem dX7_said_88 : decode cX7_said 88 = .ok (.ireturn, 1) := by decide +kernel
theorem dX7_met_0 : decode cX7_met 0 = .ok (.aload_n 0, 1) := by decide +kernel
theorem dX7_met_1 : decode cX7_met 1 = .ok (.iload_n 1, 1) := by decide +kernel
theorem dX7_met_2 : decode cX7_met 2 = .ok (.invokevirtual 163, 3) := by decide +kernel
theorem dX7_met_5 : decode cX7_met 5 = .ok (.aload_n 0, 1) := by decide +kernel
theorem dX7_met_6 : decode cX7_met 6 = .ok (.iload_n 2, 1) := by decide +kernel
theorem dX7_met_7 : decode cX7_met 7 = .ok (.invokevirtual 163, 3) := by decide +kernel
theorem dX7_met_10 : decode cX7_met 10 = .ok (.iload_n 1, 1) := by decide +kernel
theorem dX7_met_11 : decode cX7_met 11 = .ok (.iload_n 2, 1) := by decide +kernel
theorem dX7_met_12 : decode cX7_met 12 = .ok (.if_icmp .ne 13, 3) := by decide +kernel
theorem dX7_met_15 : decode cX7_met 15 = .ok (.new 65, 3) := by decide +kernel
theorem dX7_met_18 : decode cX7_met 18 = .ok (.dup, 1) := by decide +kernel
theorem dX7_met_19 : decode cX7_met 19 = .ok (.ldc 212, 2) := by decide +kernel
theorem dX7_met_21 : decode cX7_met 21 = .ok (.invokespecial 69, 3) := by decide +kernel
theorem dX7_met_24 : decode cX7_met 24 = .ok (.athrow, 1) := by decide +kernel
theorem dX7_met_25 : decode cX7_met 25 = .ok (.aload_n 0, 1) := by decide +kernel
theorem dX7_met_26 : decode cX7_met 26 = .ok (.invokevirtual 131, 3) := by decide +kernel
theorem dX7_met_29 : decode cX7_met 29 = .ok (.getfield 214, 3) := by decide +kernel
theorem dX7_met_32 : decode cX7_met 32 = .ok (.iload_n 1, 1) := by decide +kernel
theorem dX7_met_33 : decode cX7_met 33 = .ok (.aaload, 1) := by decide +kernel
theorem dX7_met_34 : decode cX7_met 34 = .ok (.iload_n 2, 1) := by decide +kernel
theorem dX7_met_35 : decode cX7_met 35 = .ok (.iaload, 1) := by decide +kernel
theorem dX7_met_36 : decode cX7_met 36 = .ok (.ireturn, 1) := by decide +kernel
theorem dX7_guilty_0 : decode cX7_guilty 0 = .ok (.aload_n 0, 1) := by decide +kernel
theorem dX7_guilty_1 : decode cX7_guilty 1 = .ok (.iload_n 1, 1) := by decide +kernel
theorem dX7_guilty_2 : decode cX7_guilty 2 = .ok (.invokevirtual 194, 3) := by decide +kernel
theorem dX7_guilty_5 : decode cX7_guilty 5 = .ok (.iload_n 2, 1) := by decide +kernel
theorem dX7_guilty_6 : decode cX7_guilty 6 = .ok (.iconst 1, 1) := by decide +kernel
theorem dX7_guilty_7 : decode cX7_guilty 7 = .ok (.invokestatic 152, 3) := by decide +kernel
theorem dX7_guilty_10 : decode cX7_guilty 10 = .ok (.aload_n 0, 1) := by decide +kernel
theorem dX7_guilty_11 : decode cX7_guilty 11 = .ok (.invokevirtual 131, 3) := by decide +kernel
theorem dX7_guilty_14 : decode cX7_guilty 14 = .ok (.astore_n 3, 1) := by decide +kernel
theorem dX7_guilty_15 : decode cX7_guilty 15 = .ok (.iload_n 2, 1) := by decide +kernel
theorem dX7_guilty_16 : decode cX7_guilty 16 = .ok (.ifCond .ne 11, 3) := by decide +kernel
theorem dX7_guilty_19 : decode cX7_guilty 19 = .ok (.aload_n 3, 1) := by decide +kernel
theorem dX7_guilty_20 : decode cX7_guilty 20 = .ok (.iload_n 1, 1) := by decide +kernel
theorem dX7_guilty_21 : decode cX7_guilty 21 = .ok (.invokevirtual 217, 3) := by decide +kernel
theorem dX7_guilty_24 : decode cX7_guilty 24 = .ok (.goto 9, 3) := by decide +kernel
theorem dX7_guilty_27 : decode cX7_guilty 27 = .ok (.aload_n 3, 1) := by decide +kernel
theorem dX7_guilty_28 : decode cX7_guilty 28 = .ok (.getfield 220, 3) := by decide +kernel
theorem dX7_guilty_31 : decode cX7_guilty 31 = .ok (.iload_n 1, 1) := by decide +kernel
theorem dX7_guilty_32 : decode cX7_guilty 32 = .ok (.iaload, 1) := by decide +kernel
theorem dX7_guilty_33 : decode cX7_guilty 33 = .ok (.ireturn, 1) := by decide +kernel
theorem dX7_news_0 : decode cX7_news 0 = .ok (.aload_n 0, 1) := by decide +kernel
theorem dX7_news_1 : decode cX7_news 1 = .ok (.iload_n 1, 1) := by decide +kernel
theorem dX7_news_2 : decode cX7_news 2 = .ok (.invokevirtual 194, 3) := by decide +kernel
theorem dX7_news_5 : decode cX7_news 5 = .ok (.aload_n 0, 1) := by decide +kernel
theorem dX7_news_6 : decode cX7_news 6 = .ok (.iload_n 2, 1) := by decide +kernel
theorem dX7_news_7 : decode cX7_news 7 = .ok (.invokevirtual 149, 3) := by decide +kernel
theorem dX7_news_10 : decode cX7_news 10 = .ok (.aload_n 0, 1) := by decide +kernel
theorem dX7_news_11 : decode cX7_news 11 = .ok (.invokevirtual 131, 3) := by decide +kernel
theorem dX7_news_14 : decode cX7_news 14 = .ok (.iload_n 1, 1) := by decide +kernel
theorem dX7_news_15 : decode cX7_news 15 = .ok (.iload_n 2, 1) := by decide +kernel
theorem dX7_news_16 : decode cX7_news 16 = .ok (.invokevirtual 223, 3) := by decide +kernel
theorem dX7_news_19 : decode cX7_news 19 = .ok (.ireturn, 1) := by decide +kernel
theorem dX7_refuseAct_0 : decode cX7_refuseAct 0 = .ok (.aload_n 0, 1) := by decide +kernel
theorem dX7_refuseAct_1 : decode cX7_refuseAct 1 = .ok (.getfield 35, 3) := by decide +kernel
theorem dX7_refuseAct_4 : decode cX7_refuseAct 4 = .ok (.getfield 82, 3) := by decide +kernel
theorem dX7_refuseAct_7 : decode cX7_refuseAct 7 = .ok (.iconst 1, 1) := by decide +kernel
theorem dX7_refuseAct_8 : decode cX7_refuseAct 8 = .ok (.dup2, 1) := by decide +kernel
theorem dX7_refuseAct_9 : decode cX7_refuseAct 9 = .ok (.iaload, 1) := by decide +kernel
theorem dX7_refuseAct_10 : decode cX7_refuseAct 10 = .ok (.iconst 1, 1) := by decide +kernel
theorem dX7_refuseAct_11 : decode cX7_refuseAct 11 = .ok (.iadd, 1) := by decide +kernel
theorem dX7_refuseAct_12 : decode cX7_refuseAct 12 = .ok (.iastore, 1) := by decide +kernel
theorem dX7_refuseAct_13 : decode cX7_refuseAct 13 = .ok (.iconst (-1), 1) := by decide +kernel
theorem dX7_refuseAct_14 : decode cX7_refuseAct 14 = .ok (.ireturn, 1) := by decide +kernel
theorem dX7_keepAct_0 : decode cX7_keepAct 0 = .ok (.aload_n 0, 1) := by decide +kernel
theorem dX7_keepAct_1 : decode cX7_keepAct 1 = .ok (.getfield 35, 3) := by decide +kernel
theorem dX7_keepAct_4 : decode cX7_keepAct 4 = .ok (.getfield 138, 3) := by decide +kernel
theorem dX7_keepAct_7 : decode cX7_keepAct 7 = .ok (.iload_n 1, 1) := by decide +kernel
theorem dX7_keepAct_8 : decode cX7_keepAct 8 = .ok (.iload_n 2, 1) := by decide +kernel
theorem dX7_keepAct_9 : decode cX7_keepAct 9 = .ok (.iload_n 3, 1) := by decide +kernel
theorem dX7_keepAct_10 : decode cX7_keepAct 10 = .ok (.invokevirtual 241, 3) := by decide +kernel
theorem dX7_keepAct_13 : decode cX7_keepAct 13 = .ok (.aload_n 0, 1) := by decide +kernel
theorem dX7_keepAct_14 : decode cX7_keepAct 14 = .ok (.iconst 0, 1) := by decide +kernel
theorem dX7_keepAct_15 : decode cX7_keepAct 15 = .ok (.putfield 94, 3) := by decide +kernel
theorem dX7_keepAct_18 : decode cX7_keepAct 18 = .ok (.return_, 1) := by decide +kernel
theorem dX7_start_0 : decode cX7_start 0 = .ok (.aload_n 0, 1) := by decide +kernel
theorem dX7_start_1 : decode cX7_start 1 = .ok (.iload_n 1, 1) := by decide +kernel
theorem dX7_start_2 : decode cX7_start 2 = .ok (.invokevirtual 163, 3) := by decide +kernel
theorem dX7_start_5 : decode cX7_start 5 = .ok (.iload_n 2, 1) := by decide +kernel
theorem dX7_start_6 : decode cX7_start 6 = .ok (.bipush 60, 2) := by decide +kernel
theorem dX7_start_8 : decode cX7_start 8 = .ok (.invokestatic 226, 3) := by decide +kernel
theorem dX7_start_11 : decode cX7_start 11 = .ok (.ifCond .eq 8, 3) := by decide +kernel
theorem dX7_start_14 : decode cX7_start 14 = .ok (.aload_n 0, 1) := by decide +kernel
theorem dX7_start_15 : decode cX7_start 15 = .ok (.invokevirtual 230, 3) := by decide +kernel
theorem dX7_start_18 : decode cX7_start 18 = .ok (.ireturn, 1) := by decide +kernel
theorem dX7_start_19 : decode cX7_start 19 = .ok (.aload_n 0, 1) := by decide +kernel
theorem dX7_start_20 : decode cX7_start 20 = .ok (.getfield 35, 3) := by decide +kernel
theorem dX7_start_23 : decode cX7_start 23 = .ok (.getfield 169, 3) := by decide +kernel
theorem dX7_start_26 : decode cX7_start 26 = .ok (.iload_n 1, 1) := by decide +kernel
theorem dX7_start_27 : decode cX7_start 27 = .ok (.iaload, 1) := by decide +kernel
theorem dX7_start_28 : decode cX7_start 28 = .ok (.istore_n 3, 1) := by decide +kernel
theorem dX7_start_29 : decode cX7_start 29 = .ok (.aload_n 0, 1) := by decide +kernel
theorem dX7_start_30 : decode cX7_start 30 = .ok (.getfield 35, 3) := by decide +kernel
theorem dX7_start_33 : decode cX7_start 33 = .ok (.getfield 169, 3) := by decide +kernel
theorem dX7_start_36 : decode cX7_start 36 = .ok (.iload_n 1, 1) := by decide +kernel
theorem dX7_start_37 : decode cX7_start 37 = .ok (.iload_n 2, 1) := by decide +kernel
theorem dX7_start_38 : decode cX7_start 38 = .ok (.iastore, 1) := by decide +kernel
theorem dX7_start_39 : decode cX7_start 39 = .ok (.aload_n 0, 1) := by decide +kernel
theorem dX7_start_40 : decode cX7_start 40 = .ok (.iconst 0, 1) := by decide +kernel
theorem dX7_start_41 : decode cX7_start 41 = .ok (.iload_n 1, 1) := by decide +kernel
theorem dX7_start_42 : decode cX7_start 42 = .ok (.iload_n 3, 1) := by decide +kernel
theorem dX7_start_43 : decode cX7_start 43 = .ok (.invokevirtual 233, 3) := by decide +kernel
theorem dX7_start_46 : decode cX7_start 46 = .ok (.iload_n 3, 1) := by decide +kernel
theorem dX7_start_47 : decode cX7_start 47 = .ok (.ireturn, 1) := by decide +kernel
theorem dX7_inn_0 : decode cX7_inn 0 = .ok (.aload_n 0, 1) := by decide +kernel
theorem dX7_inn_1 : decode cX7_inn 1 = .ok (.iload_n 1, 1) := by decide +kernel
theorem dX7_inn_2 : decode cX7_inn 2 = .ok (.invokevirtual 149, 3) := by decide +kernel
theorem dX7_inn_5 : decode cX7_inn 5 = .ok (.aload_n 0, 1) := by decide +kernel
theorem dX7_inn_6 : decode cX7_inn 6 = .ok (.getfield 35, 3) := by decide +kernel
theorem dX7_inn_9 : decode cX7_inn 9 = .ok (.getfield 113, 3) := by decide +kernel
theorem dX7_inn_12 : decode cX7_inn 12 = .ok (.iload_n 1, 1) := by decide +kernel
theorem dX7_inn_13 : decode cX7_inn 13 = .ok (.iushr, 1) := by decide +kernel
theorem dX7_inn_14 : decode cX7_inn 14 = .ok (.iconst 1, 1) := by decide +kernel
theorem dX7_inn_15 : decode cX7_inn 15 = .ok (.iand, 1) := by decide +kernel
theorem dX7_inn_16 : decode cX7_inn 16 = .ok (.iload_n 2, 1) := by decide +kernel
theorem dX7_inn_17 : decode cX7_inn 17 = .ok (.ifCond .eq 7, 3) := by decide +kernel
theorem dX7_inn_20 : decode cX7_inn 20 = .ok (.iconst 1, 1) := by decide +kernel
theorem dX7_inn_21 : decode cX7_inn 21 = .ok (.goto 4, 3) := by decide +kernel
theorem dX7_inn_24 : decode cX7_inn 24 = .ok (.iconst 0, 1) := by decide +kernel
theorem dX7_inn_25 : decode cX7_inn 25 = .ok (.if_icmp .ne 10, 3) := by decide +kernel
theorem dX7_inn_28 : decode cX7_inn 28 = .ok (.aload_n 0, 1) := by decide +kernel
theorem dX7_inn_29 : decode cX7_inn 29 = .ok (.invokevirtual 230, 3) := by decide +kernel
theorem dX7_inn_32 : decode cX7_inn 32 = .ok (.pop, 1) := by decide +kernel
theorem dX7_inn_33 : decode cX7_inn 33 = .ok (.iconst 0, 1) := by decide +kernel
theorem dX7_inn_34 : decode cX7_inn 34 = .ok (.ireturn, 1) := by decide +kernel
theorem dX7_inn_35 : decode cX7_inn 35 = .ok (.aload_n 0, 1) := by decide +kernel
theorem dX7_inn_36 : decode cX7_inn 36 = .ok (.getfield 35, 3) := by decide +kernel
theorem dX7_inn_39 : decode cX7_inn 39 = .ok (.dup, 1) := by decide +kernel
theorem dX7_inn_40 : decode cX7_inn 40 = .ok (.getfield 113, 3) := by decide +kernel
theorem dX7_inn_43 : decode cX7_inn 43 = .ok (.iconst 1, 1) := by decide +kernel
theorem dX7_inn_44 : decode cX7_inn 44 = .ok (.iload_n 1, 1) := by decide +kernel
theorem dX7_inn_45 : decode cX7_inn 45 = .ok (.ishl, 1) := by decide +kernel
theorem dX7_inn_46 : decode cX7_inn 46 = .ok (.ixor, 1) := by decide +kernel
theorem dX7_inn_47 : decode cX7_inn 47 = .ok (.putfield 113, 3) := by decide +kernel
theorem dX7_inn_50 : decode cX7_inn 50 = .ok (.aload_n 0, 1) := by decide +kernel
theorem dX7_inn_51 : decode cX7_inn 51 = .ok (.iconst 1, 1) := by decide +kernel
theorem dX7_inn_52 : decode cX7_inn 52 = .ok (.iload_n 1, 1) := by decide +kernel
theorem dX7_inn_53 : decode cX7_inn 53 = .ok (.iconst 0, 1) := by decide +kernel
theorem dX7_inn_54 : decode cX7_inn 54 = .ok (.invokevirtual 233, 3) := by decide +kernel
theorem dX7_inn_57 : decode cX7_inn 57 = .ok (.iconst 1, 1) := by decide +kernel
theorem dX7_inn_58 : decode cX7_inn 58 = .ok (.ireturn, 1) := by decide +kernel
def f_X7_far  (I : Mem) (P : PMem) (v1 : Int32) (v2 : Int32) (v3 : Int32) : Option ((Int32) ⊕ Nat) :=
  thb (f_X7_requireTown I P v1) fun y1 =>
  thb (f_X7_requireTown I P v2) fun y2 =>
  thb (f_X7_requireWhat I v3 (1 : Int32)) fun y3 =>
  if v3 = 0 then (gd (decide ((P 7 0 0 2) < 2)) <|
  gd (inb v1 9) <|
  gd (inb v2 9) <|
  some (Sum.inl (I 30 (P 7 0 0 2) v1.toNatClampNeg v2.toNatClampNeg))) else (gd (decide ((P 7 0 0 2) < 2)) <|
  gd (inb v1 9) <|
  gd (inb v2 9) <|
  some (Sum.inl (I 32 (P 7 0 0 2) v1.toNatClampNeg v2.toNatClampNeg)))
theorem b_X7_far (X : CX) (Q : State → Prop) {I : Mem} {P : PMem} {O : Nat → Int64} {D : Bool} {n : Nat} {v1 : Int32} {v2 : Int32} {v3 : Int32} {r : (Int32)}  (h : f_X7_far I P v1 v2 v3 = some (Sum.inl r)) (E : EndR X cX7_far RX7 4 (some .int) 9 n (some (.inl r)) I P O D Q) : Here X cX7_far RX7 4 (some .int) 9 n 0 [some (.inr (.inr (7, 0, 0))), some (.inl v1), some (.inl v2), some (.inl v3)] [] I P O D n Q := by
  unfold f_X7_far at h
  refine h_aload_n dX7_far_0 rfl ?_
  refine h_iload_n dX7_far_1 rfl ?_
  obtain ⟨y1, hh1, h⟩ := thb_R h
  refine h_cVv [.inl v1] (m_X7_requireTown  hh1) cw_X7_149 dX7_far_2 rfl ok_7 (by decide) rfl (Or.inr rfl) rfl ?_
  refine h_aload_n dX7_far_5 rfl ?_
  refine h_iload_n dX7_far_6 rfl ?_
  obtain ⟨y2, hh2, h⟩ := thb_R h
  refine h_cVv [.inl v2] (m_X7_requireTown  hh2) cw_X7_149 dX7_far_7 rfl ok_7 (by decide) rfl (Or.inr rfl) rfl ?_
  refine h_iload_n dX7_far_10 rfl ?_
  refine h_iconst (1 : Int32) dX7_far_11 k_iconst_1 ?_
  obtain ⟨y3, hh3, h⟩ := thb_R h
  refine h_cSv [.inl v3, .inl (1 : Int32)] (m_X7_requireWhat  hh3) cs_X7_152 dX7_far_12 rfl (by decide) rfl (Or.inr rfl) rfl ?_
  refine h_iload_n dX7_far_15 rfl ?_
  refine h_if_ne (tgt := 33) dX7_far_16 (by decide) (fun q1 => ?_) (fun q1 => ?_)
  · rw [if_neg q1] at h
    refine h_aload_n dX7_far_33 rfl ?_
    refine g_X7_16  dX7_far_34 ?_
    obtain ⟨g1, h⟩ := gd_some h
    have w1 := of_decide_eq_true g1
    refine g_X7_160 (by omega) dX7_far_37 ?_
    refine h_iload_n dX7_far_40 rfl ?_
    obtain ⟨g2, h⟩ := gd_some h
    refine ag_31 (by omega) v1.toNatClampNeg rfl dX7_far_41 g2 ?_
    have w2 := inb_lt g2
    refine h_iload_n dX7_far_42 rfl ?_
    obtain ⟨g3, h⟩ := gd_some h
    refine al_32 (by omega) (by omega) v2.toNatClampNeg rfl dX7_far_43 g3 ?_
    cases h
    exact h_iret dX7_far_44 rfl E
  · rw [if_pos q1] at h
    refine h_aload_n dX7_far_19 rfl ?_
    refine g_X7_16  dX7_far_20 ?_
    obtain ⟨g4, h⟩ := gd_some h
    have w3 := of_decide_eq_true g4
    refine g_X7_156 (by omega) dX7_far_23 ?_
    refine h_iload_n dX7_far_26 rfl ?_
    obtain ⟨g5, h⟩ := gd_some h
    refine ag_29 (by omega) v1.toNatClampNeg rfl dX7_far_27 g5 ?_
    have w4 := inb_lt g5
    refine h_iload_n dX7_far_28 rfl ?_
    obtain ⟨g6, h⟩ := gd_some h
    refine al_30 (by omega) (by omega) v2.toNatClampNeg rfl dX7_far_29 g6 ?_
    refine h_goto (tgt := 44) dX7_far_30 (by decide) ?_
    cases h
    exact h_iret dX7_far_44 rfl E
theorem bx_X7_far (X : CX) (Q : State → Prop) {I : Mem} {P : PMem} {O : Nat → Int64} {D : Bool} {n : Nat} {v1 : Int32} {v2 : Int32} {v3 : Int32} {r : Nat}  (h : f_X7_far I P v1 v2 v3 = some (Sum.inr r)) (E : EndX X cX7_far RX7 4 (some .int) 9 (n + 1) r I P O D Q) : Here X cX7_far RX7 4 (some .int) 9 (n + 1) 0 [some (.inr (.inr (7, 0, 0))), some (.inl v1), some (.inl v2), some (.inl v3)] [] I P O D n Q := by
  unfold f_X7_far at h
  refine h_aload_n dX7_far_0 rfl ?_
  refine h_iload_n dX7_far_1 rfl ?_
  rcases thb_X h with hh1 | ⟨y1, hh1, h⟩
  · exact h_callVX (as := [.inl v1]) (mx_X7_requireTown  hh1) cw_X7_149 dX7_far_2 rfl ok_7 (by decide) rfl rfl E
  refine h_cVv [.inl v1] (m_X7_requireTown  hh1) cw_X7_149 dX7_far_2 rfl ok_7 (by decide) rfl (Or.inr rfl) rfl ?_
  refine h_aload_n dX7_far_5 rfl ?_
  refine h_iload_n dX7_far_6 rfl ?_
  rcases thb_X h with hh2 | ⟨y2, hh2, h⟩
  · exact h_callVX (as := [.inl v2]) (mx_X7_requireTown  hh2) cw_X7_149 dX7_far_7 rfl ok_7 (by decide) rfl rfl E
  refine h_cVv [.inl v2] (m_X7_requireTown  hh2) cw_X7_149 dX7_far_7 rfl ok_7 (by decide) rfl (Or.inr rfl) rfl ?_
  refine h_iload_n dX7_far_10 rfl ?_
  refine h_iconst (1 : Int32) dX7_far_11 k_iconst_1 ?_
  rcases thb_X h with hh3 | ⟨y3, hh3, h⟩
  · exact h_callVX (as := [.inl v3, .inl (1 : Int32)]) (mx_X7_requireWhat  hh3) cw_X7_152 dX7_far_12 rfl (by decide) rfl rfl E
  refine h_cSv [.inl v3, .inl (1 : Int32)] (m_X7_requireWhat  hh3) cs_X7_152 dX7_far_12 rfl (by decide) rfl (Or.inr rfl) rfl ?_
  refine h_iload_n dX7_far_15 rfl ?_
  refine h_if_ne (tgt := 33) dX7_far_16 (by decide) (fun q1 => ?_) (fun q1 => ?_)
  · rw [if_neg q1] at h
    refine h_aload_n dX7_far_33 rfl ?_
    refine g_X7_16  dX7_far_34 ?_
    obtain ⟨g1, h⟩ := gd_some h
    have w1 := of_decide_eq_true g1
    refine g_X7_160 (by omega) dX7_far_37 ?_
    refine h_iload_n dX7_far_40 rfl ?_
    obtain ⟨g2, h⟩ := gd_some h
    refine ag_31 (by omega) v1.toNatClampNeg rfl dX7_far_41 g2 ?_
    have w2 := inb_lt g2
    refine h_iload_n dX7_far_42 rfl ?_
    obtain ⟨g3, h⟩ := gd_some h
    refine al_32 (by omega) (by omega) v2.toNatClampNeg rfl dX7_far_43 g3 ?_
    cases h
  · rw [if_pos q1] at h
    refine h_aload_n dX7_far_19 rfl ?_
    refine g_X7_16  dX7_far_20 ?_
    obtain ⟨g4, h⟩ := gd_some h
    have w3 := of_decide_eq_true g4
    refine g_X7_156 (by omega) dX7_far_23 ?_
    refine h_iload_n dX7_far_26 rfl ?_
    obtain ⟨g5, h⟩ := gd_some h
    refine ag_29 (by omega) v1.toNatClampNeg rfl dX7_far_27 g5 ?_
    have w4 := inb_lt g5
    refine h_iload_n dX7_far_28 rfl ?_
    obtain ⟨g6, h⟩ := gd_some h
    refine al_30 (by omega) (by omega) v2.toNatClampNeg rfl dX7_far_29 g6 ?_
    refine h_goto (tgt := 44) dX7_far_30 (by decide) ?_
    cases h
theorem m_X7_far {I : Mem} {P : PMem} {O : Nat → Int64} {D : Bool} {n : Nat} {v1 : Int32} {v2 : Int32} {v3 : Int32} {r : (Int32)}  (h : f_X7_far I P v1 v2 v3 = some (Sum.inl r)) : MethR yX7_far cX7_far 4 (some .int) 9 [.inr (.inr (7, 0, 0)), .inl v1, .inl v2, .inl v3] I P O D n (some (.inl r)) I P O D n := meth_R (Nat.le_refl _) (by decide) rfl (Nat.le_of_ble_eq_true rfl) rfl (fun X Q E => b_X7_far X Q  h E)
theorem mx_X7_far {I : Mem} {P : PMem} {O : Nat → Int64} {D : Bool} {n : Nat} {v1 : Int32} {v2 : Int32} {v3 : Int32} {r : Nat}  (h : f_X7_far I P v1 v2 v3 = some (Sum.inr r)) : MethX yX7_far cX7_far 4 (some .int) 9 [.inr (.inr (7, 0, 0)), .inl v1, .inl v2, .inl v3] I P O D n r I P O D (n + 1) := meth_X (Nat.le_succ _) (by decide) rfl (Nat.le_of_ble_eq_true rfl) rfl (fun X Q E => bx_X7_far X Q  h E)
def f_X7_requireJudge_15  (I : Mem) (P : PMem)  : Option ((Unit) ⊕ Nat) :=
  some (Sum.inr 1)
theorem b_X7_requireJudge_15 (X : CX) (Q : State → Prop) {I : Mem} {P : PMem} {O : Nat → Int64} {D : Bool} {n : Nat} {r : (Unit)}  (h : f_X7_requireJudge_15 I P = some (Sum.inl r)) (E : EndR X cX7_requireJudge RX7 2 (none) 8 n none I P O D Q) : Here X cX7_requireJudge RX7 2 (none) 8 n 15 [none, none] [] I P O D n Q := by
  unfold f_X7_requireJudge_15 at h
  cases h
theorem bx_X7_requireJudge_15 (X : CX) (Q : State → Prop) {I : Mem} {P : PMem} {O : Nat → Int64} {D : Bool} {n : Nat} {r : Nat}  (h : f_X7_requireJudge_15 I P = some (Sum.inr r)) (E : EndX X cX7_requireJudge RX7 2 (none) 8 (n + 1) r I P O D Q) : Here X cX7_requireJudge RX7 2 (none) 8 (n + 1) 15 [none, none] [] I P O D n Q := by
  unfold f_X7_requireJudge_15 at h
  cases h
  exact h_throwW (text := "no such judge") (j := 16) tw_1 (by decide) (by decide) rfl dX7_requireJudge_15 dX7_requireJudge_18 dX7_requireJudge_19 dX7_requireJudge_22 dX7_requireJudge_25 E
def f_X7_requireJudge  (I : Mem) (P : PMem) (v1 : Int32) : Option ((Unit) ⊕ Nat) :=
  if v1 < 0 then (f_X7_requireJudge_15 I P ) else (gd (decide ((P 7 0 0 2) < 2)) <|
  if v1 < (I 3 (P 7 0 0 2) 0 7) then (some (Sum.inl ())) else (f_X7_requireJudge_15 I P ))
theorem b_X7_requireJudge (X : CX) (Q : State → Prop) {I : Mem} {P : PMem} {O : Nat → Int64} {D : Bool} {n : Nat} {v1 : Int32} {r : (Unit)}  (h : f_X7_requireJudge I P v1 = some (Sum.inl r)) (E : EndR X cX7_requireJudge RX7 2 (none) 8 n none I P O D Q) : Here X cX7_requireJudge RX7 2 (none) 8 n 0 [some (.inr (.inr (7, 0, 0))), some (.inl v1)] [] I P O D n Q := by
  unfold f_X7_requireJudge at h
  refine h_iload_n dX7_requireJudge_0 rfl ?_
  refine h_if_lt (tgt := 15) dX7_requireJudge_1 (by decide) (fun q1 => ?_) (fun q1 => ?_)
  · rw [if_pos q1] at h
    exact h_mask [false, false] (b_X7_requireJudge_15 X Q  h E)
  · rw [if_neg q1] at h
    refine h_iload_n dX7_requireJudge_4 rfl ?_
    refine h_aload_n dX7_requireJudge_5 rfl ?_
    refine g_X7_16  dX7_requireJudge_6 ?_
    obtain ⟨g1, h⟩ := gd_some h
    have w1 := of_decide_eq_true g1
    refine g_X7_107 (by omega) dX7_requireJudge_9 ?_
    refine h_icmp_lt (tgt := 26) dX7_requireJudge_12 (by decide) (fun q2 => ?_) (fun q2 => ?_)
    · rw [if_pos q2] at h
      cases h
      exact h_vret dX7_requireJudge_26 rfl E
    · rw [if_neg q2] at h
      exact h_mask [false, false] (b_X7_requireJudge_15 X Q  h E)
theorem bx_X7_requireJudge (X : CX) (Q : State → Prop) {I : Mem} {P : PMem} {O : Nat → Int64} {D : Bool} {n : Nat} {v1 : Int32} {r : Nat}  (h : f_X7_requireJudge I P v1 = some (Sum.inr r)) (E : EndX X cX7_requireJudge RX7 2 (none) 8 (n + 1) r I P O D Q) : Here X cX7_requireJudge RX7 2 (none) 8 (n + 1) 0 [some (.inr (.inr (7, 0, 0))), some (.inl v1)] [] I P O D n Q := by
  unfold f_X7_requireJudge at h
  refine h_iload_n dX7_requireJudge_0 rfl ?_
  refine h_if_lt (tgt := 15) dX7_requireJudge_1 (by decide) (fun q1 => ?_) (fun q1 => ?_)
  · rw [if_pos q1] at h
    exact h_mask [false, false] (bx_X7_requireJudge_15 X Q  h E)
  · rw [if_neg q1] at h
    refine h_iload_n dX7_requireJudge_4 rfl ?_
    refine h_aload_n dX7_requireJudge_5 rfl ?_
    refine g_X7_16  dX7_requireJudge_6 ?_
    obtain ⟨g1, h⟩ := gd_some h
    have w1 := of_decide_eq_true g1
    refine g_X7_107 (by omega) dX7_requireJudge_9 ?_
    refine h_icmp_lt (tgt := 26) dX7_requireJudge_12 (by decide) (fun q2 => ?_) (fun q2 => ?_)
    · rw [if_pos q2] at h
      cases h
    · rw [if_neg q2] at h
      exact h_mask [false, false] (bx_X7_requireJudge_15 X Q  h E)
theorem m_X7_requireJudge {I : Mem} {P : PMem} {O : Nat → Int64} {D : Bool} {n : Nat} {v1 : Int32} {r : (Unit)}  (h : f_X7_requireJudge I P v1 = some (Sum.inl r)) : MethR yX7_requireJudge cX7_requireJudge 2 (none) 8 [.inr (.inr (7, 0, 0)), .inl v1] I P O D n none I P O D n := meth_R (Nat.le_refl _) (by decide) rfl (Nat.le_of_ble_eq_true rfl) rfl (fun X Q E => b_X7_requireJudge X Q  h E)
theorem mx_X7_requireJudge {I : Mem} {P : PMem} {O : Nat → Int64} {D : Bool} {n : Nat} {v1 : Int32} {r : Nat}  (h : f_X7_requireJudge I P v1 = some (Sum.inr r)) : MethX yX7_requireJudge cX7_requireJudge 2 (none) 8 [.inr (.inr (7, 0, 0)), .inl v1] I P O D n r I P O D (n + 1) := meth_X (Nat.le_succ _) (by decide) rfl (Nat.le_of_ble_eq_true rfl) rfl (fun X Q E => bx_X7_requireJudge X Q  h E)
def f_X7_judge   (I : Mem) (P : PMem) (v1 : Int32) (v2 : Int32) : Option ((Int32 × Mem × PMem) ⊕ Nat) :=
  thb (f_X7_requireJudge I P v1) fun y1 =>
  thb (f_X7_requireWhat I v2 (4 : Int32)) fun y2 =>
  (if v2 = (0 : Int32) then (gd (decide ((P 7 0 0 2) < 2)) <|
  gd (inb v1 5) <|
  some (Sum.inl ((I 33 (P 7 0 0 2) 0 v1.toNatClampNeg), I, P))) else (if v2 = (1 : Int32) then (gd (inb v1 5) <|
  some (Sum.inl ((I 9 0 0 v1.toNatClampNeg), I, P))) else (if v2 = (2 : Int32) then (gd (decide ((P 7 0 0 2) < 2)) <|
  gd (inb v1 5) <|
  some (Sum.inl ((I 35 (P 7 0 0 2) 0 v1.toNatClampNeg), I, P))) else (if v2 = (3 : Int32) then (gd (decide ((P 7 0 0 2) < 2)) <|
  gd (inb v1 5) <|
  some (Sum.inl ((I 36 (P 7 0 0 2) 0 v1.toNatClampNeg), I, P))) else ((f_X7_settledCourt I P).bind fun y3 =>
  (f_X1_lastDay y3.1 y3.2 0 v1).bind fun y4 =>
  some (Sum.inl (y4, y3.1, y3.2)))))))
theorem b_X7_judge (X : CX) (Q : State → Prop) {I : Mem} {P : PMem} {O : Nat → Int64} {D : Bool} {n : Nat} {v1 : Int32} {v2 : Int32} {r : (Int32 × Mem × PMem)}  (h : f_X7_judge I P v1 v2 = some (Sum.inl r)) (E : EndR X cX7_judge RX7 3 (some .int) 9 n (some (.inl r.1)) r.2.1 r.2.2 O D Q) : Here X cX7_judge RX7 3 (some .int) 9 n 0 [some (.inr (.inr (7, 0, 0))), some (.inl v1), some (.inl v2)] [] I P O D n Q := by
  unfold f_X7_judge at h
  refine h_aload_n dX7_judge_0 rfl ?_
  refine h_iload_n dX7_judge_1 rfl ?_
  obtain ⟨y1, hh1, h⟩ := thb_R h
  refine h_cVv [.inl v1] (m_X7_requireJudge  hh1) cw_X7_163 dX7_judge_2 rfl ok_7 (by decide) rfl (Or.inr rfl) rfl ?_
  refine h_iload_n dX7_judge_5 rfl ?_
  refine h_iconst (4 : Int32) dX7_judge_6 k_iconst_4 ?_
  obtain ⟨y2, hh2, h⟩ := thb_R h
  refine h_cSv [.inl v2, .inl (4 : Int32)] (m_X7_requireWhat  hh2) cs_X7_152 dX7_judge_7 rfl (by decide) rfl (Or.inr rfl) rfl ?_
  refine h_iload_n dX7_judge_10 rfl ?_
  by_cases q1 : v2 = (0 : Int32)
  · rw [if_pos q1] at h
    refine h_tswIn (tgt := 40) 0 dX7_judge_11 (by rw [q1]; decide) (by decide) rfl (by decide) ?_
    refine h_aload_n dX7_judge_40 rfl ?_
    refine g_X7_16  dX7_judge_41 ?_
    obtain ⟨g1, h⟩ := gd_some h
    have w1 := of_decide_eq_true g1
    refine g_X7_166 (by omega) dX7_judge_44 ?_
    refine h_iload_n dX7_judge_47 rfl ?_
    obtain ⟨g2, h⟩ := gd_some h
    refine al_33 (by omega) v1.toNatClampNeg rfl dX7_judge_48 g2 ?_
    cases h
    exact h_iret dX7_judge_49 rfl E
  · rw [if_neg q1] at h
    by_cases q2 : v2 = (1 : Int32)
    · rw [if_pos q2] at h
      refine h_tswIn (tgt := 50) 1 dX7_judge_11 (by rw [q2]; decide) (by decide) rfl (by decide) ?_
      refine h_aload_n dX7_judge_50 rfl ?_
      refine g_X7_35  dX7_judge_51 ?_
      refine g_X7_169 (by decide) dX7_judge_54 ?_
      refine h_iload_n dX7_judge_57 rfl ?_
      obtain ⟨g3, h⟩ := gd_some h
      refine al_9 (by decide) v1.toNatClampNeg rfl dX7_judge_58 g3 ?_
      cases h
      exact h_iret dX7_judge_59 rfl E
    · rw [if_neg q2] at h
      by_cases q3 : v2 = (2 : Int32)
      · rw [if_pos q3] at h
        refine h_tswIn (tgt := 60) 2 dX7_judge_11 (by rw [q3]; decide) (by decide) rfl (by decide) ?_
        refine h_aload_n dX7_judge_60 rfl ?_
        refine g_X7_16  dX7_judge_61 ?_
        obtain ⟨g4, h⟩ := gd_some h
        have w2 := of_decide_eq_true g4
        refine g_X7_172 (by omega) dX7_judge_64 ?_
        refine h_iload_n dX7_judge_67 rfl ?_
        obtain ⟨g5, h⟩ := gd_some h
        refine al_35 (by omega) v1.toNatClampNeg rfl dX7_judge_68 g5 ?_
        cases h
        exact h_iret dX7_judge_69 rfl E
      · rw [if_neg q3] at h
        by_cases q4 : v2 = (3 : Int32)
        · rw [if_pos q4] at h
          refine h_tswIn (tgt := 70) 3 dX7_judge_11 (by rw [q4]; decide) (by decide) rfl (by decide) ?_
          refine h_aload_n dX7_judge_70 rfl ?_
          refine g_X7_16  dX7_judge_71 ?_
          obtain ⟨g6, h⟩ := gd_some h
          have w3 := of_decide_eq_true g6
          refine g_X7_175 (by omega) dX7_judge_74 ?_
          refine h_iload_n dX7_judge_77 rfl ?_
          obtain ⟨g7, h⟩ := gd_some h
          refine al_36 (by omega) v1.toNatClampNeg rfl dX7_judge_78 g7 ?_
          cases h
          exact h_iret dX7_judge_79 rfl E
        · rw [if_neg q4] at h
          refine h_tswOut (tgt := 80) dX7_judge_11 ?_ (by decide) ?_
          · have n0 : v2.toInt ≠ 0 := fun e => q1 (Int32.toInt_inj.mp (e.trans (by decide)))
            have n1 : v2.toInt ≠ 1 := fun e => q2 (Int32.toInt_inj.mp (e.trans (by decide)))
            have n2 : v2.toInt ≠ 2 := fun e => q3 (Int32.toInt_inj.mp (e.trans (by decide)))
            have n3 : v2.toInt ≠ 3 := fun e => q4 (Int32.toInt_inj.mp (e.trans (by decide)))
            omega
          · refine h_aload_n dX7_judge_80 rfl ?_
            obtain ⟨y3, hh3, h⟩ := obd_some h
            refine h_cVa [] (m_X7_settledCourt  hh3) cw_X7_131 dX7_judge_81 rfl ok_7 (by decide) rfl (Or.inr rfl) rfl ?_
            refine h_iload_n dX7_judge_84 rfl ?_
            obtain ⟨y4, hh4, h⟩ := obd_some h
            refine h_cVi [.inl v1] (m_X1_lastDay (by decide) hh4) cw_X7_178 dX7_judge_85 rfl (ok_1 (by decide)) (by decide) rfl (Or.inr rfl) rfl ?_
            cases h
            exact h_iret dX7_judge_88 rfl E
theorem bx_X7_judge (X : CX) (Q : State → Prop) {I : Mem} {P : PMem} {O : Nat → Int64} {D : Bool} {n : Nat} {v1 : Int32} {v2 : Int32} {r : Nat}  (h : f_X7_judge I P v1 v2 = some (Sum.inr r)) (E : EndX X cX7_judge RX7 3 (some .int) 9 (n + 1) r I P O D Q) : Here X cX7_judge RX7 3 (some .int) 9 (n + 1) 0 [some (.inr (.inr (7, 0, 0))), some (.inl v1), some (.inl v2)] [] I P O D n Q := by
  unfold f_X7_judge at h
  refine h_aload_n dX7_judge_0 rfl ?_
  refine h_iload_n dX7_judge_1 rfl ?_
  rcases thb_X h with hh1 | ⟨y1, hh1, h⟩
  · exact h_callVX (as := [.inl v1]) (mx_X7_requireJudge  hh1) cw_X7_163 dX7_judge_2 rfl ok_7 (by decide) rfl rfl E
  refine h_cVv [.inl v1] (m_X7_requireJudge  hh1) cw_X7_163 dX7_judge_2 rfl ok_7 (by decide) rfl (Or.inr rfl) rfl ?_
  refine h_iload_n dX7_judge_5 rfl ?_
  refine h_iconst (4 : Int32) dX7_judge_6 k_iconst_4 ?_
  rcases thb_X h with hh2 | ⟨y2, hh2, h⟩
  · exact h_callVX (as := [.inl v2, .inl (4 : Int32)]) (mx_X7_requireWhat  hh2) cw_X7_152 dX7_judge_7 rfl (by decide) rfl rfl E
  refine h_cSv [.inl v2, .inl (4 : Int32)] (m_X7_requireWhat  hh2) cs_X7_152 dX7_judge_7 rfl (by decide) rfl (Or.inr rfl) rfl ?_
  refine h_iload_n dX7_judge_10 rfl ?_
  by_cases q1 : v2 = (0 : Int32)
  · rw [if_pos q1] at h
    refine h_tswIn (tgt := 40) 0 dX7_judge_11 (by rw [q1]; decide) (by decide) rfl (by decide) ?_
    refine h_aload_n dX7_judge_40 rfl ?_
    refine g_X7_16  dX7_judge_41 ?_
    obtain ⟨g1, h⟩ := gd_some h
    have w1 := of_decide_eq_true g1
    refine g_X7_166 (by omega) dX7_judge_44 ?_
    refine h_iload_n dX7_judge_47 rfl ?_
    obtain ⟨g2, h⟩ := gd_some h
    refine al_33 (by omega) v1.toNatClampNeg rfl dX7_judge_48 g2 ?_
    cases h
  · rw [if_neg q1] at h
    by_cases q2 : v2 = (1 : Int32)
    · rw [if_pos q2] at h
      refine h_tswIn (tgt := 50) 1 dX7_judge_11 (by rw [q2]; decide) (by decide) rfl (by decide) ?_
      refine h_aload_n dX7_judge_50 rfl ?_
      refine g_X7_35  dX7_judge_51 ?_
      refine g_X7_169 (by decide) dX7_judge_54 ?_
      refine h_iload_n dX7_judge_57 rfl ?_
      obtain ⟨g3, h⟩ := gd_some h
      refine al_9 (by decide) v1.toNatClampNeg rfl dX7_judge_58 g3 ?_
      cases h
    · rw [if_neg q2] at h
      by_cases q3 : v2 = (2 : Int32)
      · rw [if_pos q3] at h
        refine h_tswIn (tgt := 60) 2 dX7_judge_11 (by rw [q3]; decide) (by decide) rfl (by decide) ?_
        refine h_aload_n dX7_judge_60 rfl ?_
        refine g_X7_16  dX7_judge_61 ?_
        obtain ⟨g4, h⟩ := gd_some h
        have w2 := of_decide_eq_true g4
        refine g_X7_172 (by omega) dX7_judge_64 ?_
        refine h_iload_n dX7_judge_67 rfl ?_
        obtain ⟨g5, h⟩ := gd_some h
        refine al_35 (by omega) v1.toNatClampNeg rfl dX7_judge_68 g5 ?_
        cases h
      · rw [if_neg q3] at h
        by_cases q4 : v2 = (3 : Int32)
        · rw [if_pos q4] at h
          refine h_tswIn (tgt := 70) 3 dX7_judge_11 (by rw [q4]; decide) (by decide) rfl (by decide) ?_
          refine h_aload_n dX7_judge_70 rfl ?_
          refine g_X7_16  dX7_judge_71 ?_
          obtain ⟨g6, h⟩ := gd_some h
          have w3 := of_decide_eq_true g6
          refine g_X7_175 (by omega) dX7_judge_74 ?_
          refine h_iload_n dX7_judge_77 rfl ?_
          obtain ⟨g7, h⟩ := gd_some h
          refine al_36 (by omega) v1.toNatClampNeg rfl dX7_judge_78 g7 ?_
          cases h
        · rw [if_neg q4] at h
          refine h_tswOut (tgt := 80) dX7_judge_11 ?_ (by decide) ?_
          · have n0 : v2.toInt ≠ 0 := fun e => q1 (Int32.toInt_inj.mp (e.trans (by decide)))
            have n1 : v2.toInt ≠ 1 := fun e => q2 (Int32.toInt_inj.mp (e.trans (by decide)))
            have n2 : v2.toInt ≠ 2 := fun e => q3 (Int32.toInt_inj.mp (e.trans (by decide)))
            have n3 : v2.toInt ≠ 3 := fun e => q4 (Int32.toInt_inj.mp (e.trans (by decide)))
            omega
          · refine h_aload_n dX7_judge_80 rfl ?_
            obtain ⟨y3, hh3, h⟩ := obd_some h
            refine h_cVa [] (m_X7_settledCourt  hh3) cw_X7_131 dX7_judge_81 rfl ok_7 (by decide) rfl (Or.inr rfl) rfl ?_
            refine h_iload_n dX7_judge_84 rfl ?_
            obtain ⟨y4, hh4, h⟩ := obd_some h
            refine h_cVi [.inl v1] (m_X1_lastDay (by decide) hh4) cw_X7_178 dX7_judge_85 rfl (ok_1 (by decide)) (by decide) rfl (Or.inr rfl) rfl ?_
            cases h
theorem m_X7_judge {I : Mem} {P : PMem} {O : Nat → Int64} {D : Bool} {n : Nat} {v1 : Int32} {v2 : Int32} {r : (Int32 × Mem × PMem)}  (h : f_X7_judge I P v1 v2 = some (Sum.inl r)) : MethR yX7_judge cX7_judge 3 (some .int) 9 [.inr (.inr (7, 0, 0)), .inl v1, .inl v2] I P O D n (some (.inl r.1)) r.2.1 r.2.2 O D n := meth_R (Nat.le_refl _) (by decide) rfl (Nat.le_of_ble_eq_true rfl) rfl (fun X Q E => b_X7_judge X Q  h E)
theorem mx_X7_judge {I : Mem} {P : PMem} {O : Nat → Int64} {D : Bool} {n : Nat} {v1 : Int32} {v2 : Int32} {r : Nat}  (h : f_X7_judge I P v1 v2 = some (Sum.inr r)) : MethX yX7_judge cX7_judge 3 (some .int) 9 [.inr (.inr (7, 0, 0)), .inl v1, .inl v2] I P O D n r I P O D (n + 1) := meth_X (Nat.le_succ _) (by decide) rfl (Nat.le_of_ble_eq_true rfl) rfl (fun X Q E => bx_X7_judge X Q  h E)
def f_X7_stop_27   (I : Mem) (P : PMem) : Option ((Int32 × Mem × PMem) ⊕ Nat) :=
  some (Sum.inr 1)
theorem b_X7_stop_27 (X : CX) (Q : State → Prop) {I : Mem} {P : PMem} {O : Nat → Int64} {D : Bool} {n : Nat} {r : (Int32 × Mem × PMem)}  (h : f_X7_stop_27 I P = some (Sum.inl r)) (E : EndR X cX7_stop RX7 4 (some .int) 9 n (some (.inl r.1)) r.2.1 r.2.2 O D Q) : Here X cX7_stop RX7 4 (some .int) 9 n 27 [none, none, none, none] [] I P O D n Q := by
  unfold f_X7_stop_27 at h
  cases h
theorem bx_X7_stop_27 (X : CX) (Q : State → Prop) {I : Mem} {P : PMem} {O : Nat → Int64} {D : Bool} {n : Nat} {r : Nat}  (h : f_X7_stop_27 I P = some (Sum.inr r)) (E : EndX X cX7_stop RX7 4 (some .int) 9 (n + 1) r I P O D Q) : Here X cX7_stop RX7 4 (some .int) 9 (n + 1) 27 [none, none, none, none] [] I P O D n Q := by
  unfold f_X7_stop_27 at h
  cases h
  exact h_throw (text := "no such stop") (j := 17) tw_1 (by decide) (by decide) rfl dX7_stop_27 dX7_stop_30 dX7_stop_31 dX7_stop_33 dX7_stop_36 E
def f_X7_stop   (I : Mem) (P : PMem) (v1 : Int32) (v2 : Int32) (v3 : Int32) : Option ((Int32 × Mem × PMem) ⊕ Nat) :=
  thb (f_X7_requireJudge I P v1) fun y1 =>
  thb (f_X7_requireWhat I v3 (1 : Int32)) fun y2 =>
  if v2 < 0 then (f_X7_stop_27 I P) else (gd (decide ((P 7 0 0 2) < 2)) <|
  gd (inb v1 5) <|
  if v2 < (I 36 (P 7 0 0 2) 0 v1.toNatClampNeg) then (if v3 = 0 then (gd (inb v2 7) <|
  some (Sum.inl ((I 38 (P 7 0 0 2) v1.toNatClampNeg v2.toNatClampNeg), I, P))) else ((f_X7_settledCourt I P).bind fun y3 =>
  gd (inb v2 7) <|
  some (Sum.inl ((y3.1 14 0 v1.toNatClampNeg v2.toNatClampNeg), y3.1, y3.2)))) else (f_X7_stop_27 I P))
theorem b_X7_stop (X : CX) (Q : State → Prop) {I : Mem} {P : PMem} {O : Nat → Int64} {D : Bool} {n : Nat} {v1 : Int32} {v2 : Int32} {v3 : Int32} {r : (Int32 × Mem × PMem)}  (h : f_X7_stop I P v1 v2 v3 = some (Sum.inl r)) (E : EndR X cX7_stop RX7 4 (some .int) 9 n (some (.inl r.1)) r.2.1 r.2.2 O D Q) : Here X cX7_stop RX7 4 (some .int) 9 n 0 [some (.inr (.inr (7, 0, 0))), some (.inl v1), some (.inl v2), some (.inl v3)] [] I P O D n Q := by
  unfold f_X7_stop at h
  refine h_aload_n dX7_stop_0 rfl ?_
  refine h_iload_n dX7_stop_1 rfl ?_
  obtain ⟨y1, hh1, h⟩ := thb_R h
  refine h_cVv [.inl v1] (m_X7_requireJudge  hh1) cw_X7_163 dX7_stop_2 rfl ok_7 (by decide) rfl (Or.inr rfl) rfl ?_
  refine h_iload_n dX7_stop_5 rfl ?_
  refine h_iconst (1 : Int32) dX7_stop_6 k_iconst_1 ?_
  obtain ⟨y2, hh2, h⟩ := thb_R h
  refine h_cSv [.inl v3, .inl (1 : Int32)] (m_X7_requireWhat  hh2) cs_X7_152 dX7_stop_7 rfl (by decide) rfl (Or.inr rfl) rfl ?_
  refine h_iload_n dX7_stop_10 rfl ?_
  refine h_if_lt (tgt := 27) dX7_stop_11 (by decide) (fun q1 => ?_) (fun q1 => ?_)
  · rw [if_pos q1] at h
    exact h_mask [false, false, false, false] (b_X7_stop_27 X Q  h E)
  · rw [if_neg q1] at h
    refine h_iload_n dX7_stop_14 rfl ?_
    refine h_aload_n dX7_stop_15 rfl ?_
    refine g_X7_16  dX7_stop_16 ?_
    obtain ⟨g1, h⟩ := gd_some h
    have w1 := of_decide_eq_true g1
    refine g_X7_175 (by omega) dX7_stop_19 ?_
    refine h_iload_n dX7_stop_22 rfl ?_
    obtain ⟨g2, h⟩ := gd_some h
    refine al_36 (by omega) v1.toNatClampNeg rfl dX7_stop_23 g2 ?_
    refine h_icmp_lt (tgt := 37) dX7_stop_24 (by decide) (fun q2 => ?_) (fun q2 => ?_)
    · rw [if_pos q2] at h
      refine h_iload_n dX7_stop_37 rfl ?_
      refine h_if_ne (tgt := 55) dX7_stop_38 (by decide) (fun q3 => ?_) (fun q3 => ?_)
      · rw [if_neg q3] at h
        refine h_aload_n dX7_stop_55 rfl ?_
        obtain ⟨y3, hh3, h⟩ := obd_some h
        refine h_cVa [] (m_X7_settledCourt  hh3) cw_X7_131 dX7_stop_56 rfl ok_7 (by decide) rfl (Or.inr rfl) rfl ?_
        refine g_X7_187 (by decide) dX7_stop_59 ?_
        refine h_iload_n dX7_stop_62 rfl ?_
        refine ag_13 (by decide) v1.toNatClampNeg rfl dX7_stop_63 g2 ?_
        have w2 := inb_lt g2
        refine h_iload_n dX7_stop_64 rfl ?_
        obtain ⟨g3, h⟩ := gd_some h
        refine al_14 (by decide) (by omega) v2.toNatClampNeg rfl dX7_stop_65 g3 ?_
        cases h
        exact h_iret dX7_stop_66 rfl E
      · rw [if_pos q3] at h
        refine h_aload_n dX7_stop_41 rfl ?_
        refine g_X7_16  dX7_stop_42 ?_
        refine g_X7_184 (by omega) dX7_stop_45 ?_
        refine h_iload_n dX7_stop_48 rfl ?_
        refine ag_37 (by omega) v1.toNatClampNeg rfl dX7_stop_49 g2 ?_
        have w3 := inb_lt g2
        refine h_iload_n dX7_stop_50 rfl ?_
        obtain ⟨g4, h⟩ := gd_some h
        refine al_38 (by omega) (by omega) v2.toNatClampNeg rfl dX7_stop_51 g4 ?_
        refine h_goto (tgt := 66) dX7_stop_52 (by decide) ?_
        cases h
        exact h_iret dX7_stop_66 rfl E
    · rw [if_neg q2] at h
      exact h_mask [false, false, false, false] (b_X7_stop_27 X Q  h E)
theorem bx_X7_stop (X : CX) (Q : State → Prop) {I : Mem} {P : PMem} {O : Nat → Int64} {D : Bool} {n : Nat} {v1 : Int32} {v2 : Int32} {v3 : Int32} {r : Nat}  (h : f_X7_stop I P v1 v2 v3 = some (Sum.inr r)) (E : EndX X cX7_stop RX7 4 (some .int) 9 (n + 1) r I P O D Q) : Here X cX7_stop RX7 4 (some .int) 9 (n + 1) 0 [some (.inr (.inr (7, 0, 0))), some (.inl v1), some (.inl v2), some (.inl v3)] [] I P O D n Q := by
  unfold f_X7_stop at h
  refine h_aload_n dX7_stop_0 rfl ?_
  refine h_iload_n dX7_stop_1 rfl ?_
  rcases thb_X h with hh1 | ⟨y1, hh1, h⟩
  · exact h_callVX (as := [.inl v1]) (mx_X7_requireJudge  hh1) cw_X7_163 dX7_stop_2 rfl ok_7 (by decide) rfl rfl E
  refine h_cVv [.inl v1] (m_X7_requireJudge  hh1) cw_X7_163 dX7_stop_2 rfl ok_7 (by decide) rfl (Or.inr rfl) rfl ?_
  refine h_iload_n dX7_stop_5 rfl ?_
  refine h_iconst (1 : Int32) dX7_stop_6 k_iconst_1 ?_
  rcases thb_X h with hh2 | ⟨y2, hh2, h⟩
  · exact h_callVX (as := [.inl v3, .inl (1 : Int32)]) (mx_X7_requireWhat  hh2) cw_X7_152 dX7_stop_7 rfl (by decide) rfl rfl E
  refine h_cSv [.inl v3, .inl (1 : Int32)] (m_X7_requireWhat  hh2) cs_X7_152 dX7_stop_7 rfl (by decide) rfl (Or.inr rfl) rfl ?_
  refine h_iload_n dX7_stop_10 rfl ?_
  refine h_if_lt (tgt := 27) dX7_stop_11 (by decide) (fun q1 => ?_) (fun q1 => ?_)
  · rw [if_pos q1] at h
    exact h_mask [false, false, false, false] (bx_X7_stop_27 X Q  h E)
  · rw [if_neg q1] at h
    refine h_iload_n dX7_stop_14 rfl ?_
    refine h_aload_n dX7_stop_15 rfl ?_
    refine g_X7_16  dX7_stop_16 ?_
    obtain ⟨g1, h⟩ := gd_some h
    have w1 := of_decide_eq_true g1
    refine g_X7_175 (by omega) dX7_stop_19 ?_
    refine h_iload_n dX7_stop_22 rfl ?_
    obtain ⟨g2, h⟩ := gd_some h
    refine al_36 (by omega) v1.toNatClampNeg rfl dX7_stop_23 g2 ?_
    refine h_icmp_lt (tgt := 37) dX7_stop_24 (by decide) (fun q2 => ?_) (fun q2 => ?_)
    · rw [if_pos q2] at h
      refine h_iload_n dX7_stop_37 rfl ?_
      refine h_if_ne (tgt := 55) dX7_stop_38 (by decide) (fun q3 => ?_) (fun q3 => ?_)
      · rw [if_neg q3] at h
        refine h_aload_n dX7_stop_55 rfl ?_
        obtain ⟨y3, hh3, h⟩ := obd_some h
        refine h_cVa [] (m_X7_settledCourt  hh3) cw_X7_131 dX7_stop_56 rfl ok_7 (by decide) rfl (Or.inr rfl) rfl ?_
        refine g_X7_187 (by decide) dX7_stop_59 ?_
        refine h_iload_n dX7_stop_62 rfl ?_
        refine ag_13 (by decide) v1.toNatClampNeg rfl dX7_stop_63 g2 ?_
        have w2 := inb_lt g2
        refine h_iload_n dX7_stop_64 rfl ?_
        obtain ⟨g3, h⟩ := gd_some h
        refine al_14 (by decide) (by omega) v2.toNatClampNeg rfl dX7_stop_65 g3 ?_
        cases h
      · rw [if_pos q3] at h
        refine h_aload_n dX7_stop_41 rfl ?_
        refine g_X7_16  dX7_stop_42 ?_
        refine g_X7_184 (by omega) dX7_stop_45 ?_
        refine h_iload_n dX7_stop_48 rfl ?_
        refine ag_37 (by omega) v1.toNatClampNeg rfl dX7_stop_49 g2 ?_
        have w3 := inb_lt g2
        refine h_iload_n dX7_stop_50 rfl ?_
        obtain ⟨g4, h⟩ := gd_some h
        refine al_38 (by omega) (by omega) v2.toNatClampNeg rfl dX7_stop_51 g4 ?_
        refine h_goto (tgt := 66) dX7_stop_52 (by decide) ?_
        cases h
    · rw [if_neg q2] at h
      exact h_mask [false, false, false, false] (bx_X7_stop_27 X Q  h E)
theorem m_X7_stop {I : Mem} {P : PMem} {O : Nat → Int64} {D : Bool} {n : Nat} {v1 : Int32} {v2 : Int32} {v3 : Int32} {r : (Int32 × Mem × PMem)}  (h : f_X7_stop I P v1 v2 v3 = some (Sum.inl r)) : MethR yX7_stop cX7_stop 4 (some .int) 9 [.inr (.inr (7, 0, 0)), .inl v1, .inl v2, .inl v3] I P O D n (some (.inl r.1)) r.2.1 r.2.2 O D n := meth_R (Nat.le_refl _) (by decide) rfl (Nat.le_of_ble_eq_true rfl) rfl (fun X Q E => b_X7_stop X Q  h E)
theorem mx_X7_stop {I : Mem} {P : PMem} {O : Nat → Int64} {D : Bool} {n : Nat} {v1 : Int32} {v2 : Int32} {v3 : Int32} {r : Nat}  (h : f_X7_stop I P v1 v2 v3 = some (Sum.inr r)) : MethX yX7_stop cX7_stop 4 (some .int) 9 [.inr (.inr (7, 0, 0)), .inl v1, .inl v2, .inl v3] I P O D n r I P O D (n + 1) := meth_X (Nat.le_succ _) (by decide) rfl (Nat.le_of_ble_eq_true rfl) rfl (fun X Q E => bx_X7_stop X Q  h E)
def f_X7_where   (I : Mem) (P : PMem) (v1 : Int32) (v2 : Int32) : Option ((Int32 × Mem × PMem) ⊕ Nat) :=
  thb (f_X7_requireJudge I P v1) fun y1 =>
  (f_X7_settledCourt I P).bind fun y2 =>
  (f_X1_townOn y2.1 y2.2 0 v1 v2).bind fun y3 =>
  some (Sum.inl (y3, y2.1, y2.2))
theorem b_X7_where (X : CX) (Q : State → Prop) {I : Mem} {P : PMem} {O : Nat → Int64} {D : Bool} {n : Nat} {v1 : Int32} {v2 : Int32} {r : (Int32 × Mem × PMem)}  (h : f_X7_where I P v1 v2 = some (Sum.inl r)) (E : EndR X cX7_where RX7 3 (some .int) 9 n (some (.inl r.1)) r.2.1 r.2.2 O D Q) : Here X cX7_where RX7 3 (some .int) 9 n 0 [some (.inr (.inr (7, 0, 0))), some (.inl v1), some (.inl v2)] [] I P O D n Q := by
  unfold f_X7_where at h
  refine h_aload_n dX7_where_0 rfl ?_
  refine h_iload_n dX7_where_1 rfl ?_
  obtain ⟨y1, hh1, h⟩ := thb_R h
  refine h_cVv [.inl v1] (m_X7_requireJudge  hh1) cw_X7_163 dX7_where_2 rfl ok_7 (by decide) rfl (Or.inr rfl) rfl ?_
  refine h_aload_n dX7_where_5 rfl ?_
  obtain ⟨y2, hh2, h⟩ := obd_some h
  refine h_cVa [] (m_X7_settledCourt  hh2) cw_X7_131 dX7_where_6 rfl ok_7 (by decide) rfl (Or.inr rfl) rfl ?_
  refine h_iload_n dX7_where_9 rfl ?_
  refine h_iload_n dX7_where_10 rfl ?_
  obtain ⟨y3, hh3, h⟩ := obd_some h
  refine h_cVi [.inl v1, .inl v2] (m_X1_townOn (by decide) hh3) cw_X7_190 dX7_where_11 rfl (ok_1 (by decide)) (by decide) rfl (Or.inr rfl) rfl ?_
  cases h
  exact h_iret dX7_where_14 rfl E
theorem bx_X7_where (X : CX) (Q : State → Prop) {I : Mem} {P : PMem} {O : Nat → Int64} {D : Bool} {n : Nat} {v1 : Int32} {v2 : Int32} {r : Nat}  (h : f_X7_where I P v1 v2 = some (Sum.inr r)) (E : EndX X cX7_where RX7 3 (some .int) 9 (n + 1) r I P O D Q) : Here X cX7_where RX7 3 (some .int) 9 (n + 1) 0 [some (.inr (.inr (7, 0, 0))), some (.inl v1), some (.inl v2)] [] I P O D n Q := by
  unfold f_X7_where at h
  refine h_aload_n dX7_where_0 rfl ?_
  refine h_iload_n dX7_where_1 rfl ?_
  rcases thb_X h with hh1 | ⟨y1, hh1, h⟩
  · exact h_callVX (as := [.inl v1]) (mx_X7_requireJudge  hh1) cw_X7_163 dX7_where_2 rfl ok_7 (by decide) rfl rfl E
  refine h_cVv [.inl v1] (m_X7_requireJudge  hh1) cw_X7_163 dX7_where_2 rfl ok_7 (by decide) rfl (Or.inr rfl) rfl ?_
  refine h_aload_n dX7_where_5 rfl ?_
  obtain ⟨y2, hh2, h⟩ := obd_some h
  refine h_cVa [] (m_X7_settledCourt  hh2) cw_X7_131 dX7_where_6 rfl ok_7 (by decide) rfl (Or.inr rfl) rfl ?_
  refine h_iload_n dX7_where_9 rfl ?_
  refine h_iload_n dX7_where_10 rfl ?_
  obtain ⟨y3, hh3, h⟩ := obd_some h
  refine h_cVi [.inl v1, .inl v2] (m_X1_townOn (by decide) hh3) cw_X7_190 dX7_where_11 rfl (ok_1 (by decide)) (by decide) rfl (Or.inr rfl) rfl ?_
  cases h
theorem m_X7_where {I : Mem} {P : PMem} {O : Nat → Int64} {D : Bool} {n : Nat} {v1 : Int32} {v2 : Int32} {r : (Int32 × Mem × PMem)}  (h : f_X7_where I P v1 v2 = some (Sum.inl r)) : MethR yX7_where cX7_where 3 (some .int) 9 [.inr (.inr (7, 0, 0)), .inl v1, .inl v2] I P O D n (some (.inl r.1)) r.2.1 r.2.2 O D n := meth_R (Nat.le_refl _) (by decide) rfl (Nat.le_of_ble_eq_true rfl) rfl (fun X Q E => b_X7_where X Q  h E)
theorem mx_X7_where {I : Mem} {P : PMem} {O : Nat → Int64} {D : Bool} {n : Nat} {v1 : Int32} {v2 : Int32} {r : Nat}  (h : f_X7_where I P v1 v2 = some (Sum.inr r)) : MethX yX7_where cX7_where 3 (some .int) 9 [.inr (.inr (7, 0, 0)), .inl v1, .inl v2] I P O D n r I P O D (n + 1) := meth_X (Nat.le_succ _) (by decide) rfl (Nat.le_of_ble_eq_true rfl) rfl (fun X Q E => bx_X7_where X Q  h E)
def f_X7_requireCase_15  (I : Mem) (P : PMem)  : Option ((Unit) ⊕ Nat) :=
  some (Sum.inr 1)
theorem b_X7_requireCase_15 (X : CX) (Q : State → Prop) {I : Mem} {P : PMem} {O : Nat → Int64} {D : Bool} {n : Nat} {r : (Unit)}  (h : f_X7_requireCase_15 I P = some (Sum.inl r)) (E : EndR X cX7_requireCase RX7 2 (none) 8 n none I P O D Q) : Here X cX7_requireCase RX7 2 (none) 8 n 15 [none, none] [] I P O D n Q := by
  unfold f_X7_requireCase_15 at h
  cases h
theorem bx_X7_requireCase_15 (X : CX) (Q : State → Prop) {I : Mem} {P : PMem} {O : Nat → Int64} {D : Bool} {n : Nat} {r : Nat}  (h : f_X7_requireCase_15 I P = some (Sum.inr r)) (E : EndX X cX7_requireCase RX7 2 (none) 8 (n + 1) r I P O D Q) : Here X cX7_requireCase RX7 2 (none) 8 (n + 1) 15 [none, none] [] I P O D n Q := by
  unfold f_X7_requireCase_15 at h
  cases h
  exact h_throwW (text := "no such case") (j := 14) tw_1 (by decide) (by decide) rfl dX7_requireCase_15 dX7_requireCase_18 dX7_requireCase_19 dX7_requireCase_22 dX7_requireCase_25 E
def f_X7_requireCase  (I : Mem) (P : PMem) (v1 : Int32) : Option ((Unit) ⊕ Nat) :=
  if v1 < 0 then (f_X7_requireCase_15 I P ) else (gd (decide ((P 7 0 0 2) < 2)) <|
  if v1 < (I 3 (P 7 0 0 2) 0 13) then (some (Sum.inl ())) else (f_X7_requireCase_15 I P ))
theorem b_X7_requireCase (X : CX) (Q : State → Prop) {I : Mem} {P : PMem} {O : Nat → Int64} {D : Bool} {n : Nat} {v1 : Int32} {r : (Unit)}  (h : f_X7_requireCase I P v1 = some (Sum.inl r)) (E : EndR X cX7_requireCase RX7 2 (none) 8 n none I P O D Q) : Here X cX7_requireCase RX7 2 (none) 8 n 0 [some (.inr (.inr (7, 0, 0))), some (.inl v1)] [] I P O D n Q := by
  unfold f_X7_requireCase at h
  refine h_iload_n dX7_requireCase_0 rfl ?_
  refine h_if_lt (tgt := 15) dX7_requireCase_1 (by decide) (fun q1 => ?_) (fun q1 => ?_)
  · rw [if_pos q1] at h
    exact h_mask [false, false] (b_X7_requireCase_15 X Q  h E)
  · rw [if_neg q1] at h
    refine h_iload_n dX7_requireCase_4 rfl ?_
    refine h_aload_n dX7_requireCase_5 rfl ?_
    refine g_X7_16  dX7_requireCase_6 ?_
    obtain ⟨g1, h⟩ := gd_some h
    have w1 := of_decide_eq_true g1
    refine g_X7_110 (by omega) dX7_requireCase_9 ?_
    refine h_icmp_lt (tgt := 26) dX7_requireCase_12 (by decide) (fun q2 => ?_) (fun q2 => ?_)
    · rw [if_pos q2] at h
      cases h
      exact h_vret dX7_requireCase_26 rfl E
    · rw [if_neg q2] at h
      exact h_mask [false, false] (b_X7_requireCase_15 X Q  h E)
theorem bx_X7_requireCase (X : CX) (Q : State → Prop) {I : Mem} {P : PMem} {O : Nat → Int64} {D : Bool} {n : Nat} {v1 : Int32} {r : Nat}  (h : f_X7_requireCase I P v1 = some (Sum.inr r)) (E : EndX X cX7_requireCase RX7 2 (none) 8 (n + 1) r I P O D Q) : Here X cX7_requireCase RX7 2 (none) 8 (n + 1) 0 [some (.inr (.inr (7, 0, 0))), some (.inl v1)] [] I P O D n Q := by
  unfold f_X7_requireCase at h
  refine h_iload_n dX7_requireCase_0 rfl ?_
  refine h_if_lt (tgt := 15) dX7_requireCase_1 (by decide) (fun q1 => ?_) (fun q1 => ?_)
  · rw [if_pos q1] at h
    exact h_mask [false, false] (bx_X7_requireCase_15 X Q  h E)
  · rw [if_neg q1] at h
    refine h_iload_n dX7_requireCase_4 rfl ?_
    refine h_aload_n dX7_requireCase_5 rfl ?_
    refine g_X7_16  dX7_requireCase_6 ?_
    obtain ⟨g1, h⟩ := gd_some h
    have w1 := of_decide_eq_true g1
    refine g_X7_110 (by omega) dX7_requireCase_9 ?_
    refine h_icmp_lt (tgt := 26) dX7_requireCase_12 (by decide) (fun q2 => ?_) (fun q2 => ?_)
    · rw [if_pos q2] at h
      cases h
    · rw [if_neg q2] at h
      exact h_mask [false, false] (bx_X7_requireCase_15 X Q  h E)
theorem m_X7_requireCase {I : Mem} {P : PMem} {O : Nat → Int64} {D : Bool} {n : Nat} {v1 : Int32} {r : (Unit)}  (h : f_X7_requireCase I P v1 = some (Sum.inl r)) : MethR yX7_requireCase cX7_requireCase 2 (none) 8 [.inr (.inr (7, 0, 0)), .inl v1] I P O D n none I P O D n := meth_R (Nat.le_refl _) (by decide) rfl (Nat.le_of_ble_eq_true rfl) rfl (fun X Q E => b_X7_requireCase X Q  h E)
theorem mx_X7_requireCase {I : Mem} {P : PMem} {O : Nat → Int64} {D : Bool} {n : Nat} {v1 : Int32} {r : Nat}  (h : f_X7_requireCase I P v1 = some (Sum.inr r)) : MethX yX7_requireCase cX7_requireCase 2 (none) 8 [.inr (.inr (7, 0, 0)), .inl v1] I P O D n r I P O D (n + 1) := meth_X (Nat.le_succ _) (by decide) rfl (Nat.le_of_ble_eq_true rfl) rfl (fun X Q E => bx_X7_requireCase X Q  h E)
def f_X7_proof  (I : Mem) (P : PMem) (v1 : Int32) (v2 : Int32) : Option ((Int32) ⊕ Nat) :=
  thb (f_X7_requireCase I P v1) fun y1 =>
  thb (f_X7_requireTown I P v2) fun y2 =>
  gd (decide ((P 7 0 0 2) < 2)) <|
  gd (inb v1 6) <|
  gd (inb v2 9) <|
  some (Sum.inl (I 40 (P 7 0 0 2) v1.toNatClampNeg v2.toNatClampNeg))
theorem b_X7_proof (X : CX) (Q : State → Prop) {I : Mem} {P : PMem} {O : Nat → Int64} {D : Bool} {n : Nat} {v1 : Int32} {v2 : Int32} {r : (Int32)}  (h : f_X7_proof I P v1 v2 = some (Sum.inl r)) (E : EndR X cX7_proof RX7 3 (some .int) 9 n (some (.inl r)) I P O D Q) : Here X cX7_proof RX7 3 (some .int) 9 n 0 [some (.inr (.inr (7, 0, 0))), some (.inl v1), some (.inl v2)] [] I P O D n Q := by
  unfold f_X7_proof at h
  refine h_aload_n dX7_proof_0 rfl ?_
  refine h_iload_n dX7_proof_1 rfl ?_
  obtain ⟨y1, hh1, h⟩ := thb_R h
  refine h_cVv [.inl v1] (m_X7_requireCase  hh1) cw_X7_194 dX7_proof_2 rfl ok_7 (by decide) rfl (Or.inr rfl) rfl ?_
  refine h_aload_n dX7_proof_5 rfl ?_
  refine h_iload_n dX7_proof_6 rfl ?_
  obtain ⟨y2, hh2, h⟩ := thb_R h
  refine h_cVv [.inl v2] (m_X7_requireTown  hh2) cw_X7_149 dX7_proof_7 rfl ok_7 (by decide) rfl (Or.inr rfl) rfl ?_
  refine h_aload_n dX7_proof_10 rfl ?_
  refine g_X7_16  dX7_proof_11 ?_
  obtain ⟨g1, h⟩ := gd_some h
  have w1 := of_decide_eq_true g1
  refine g_X7_197 (by omega) dX7_proof_14 ?_
  refine h_iload_n dX7_proof_17 rfl ?_
  obtain ⟨g2, h⟩ := gd_some h
  refine ag_39 (by omega) v1.toNatClampNeg rfl dX7_proof_18 g2 ?_
  have w2 := inb_lt g2
  refine h_iload_n dX7_proof_19 rfl ?_
  obtain ⟨g3, h⟩ := gd_some h
  refine al_40 (by omega) (by omega) v2.toNatClampNeg rfl dX7_proof_20 g3 ?_
  cases h
  exact h_iret dX7_proof_21 rfl E
theorem bx_X7_proof (X : CX) (Q : State → Prop) {I : Mem} {P : PMem} {O : Nat → Int64} {D : Bool} {n : Nat} {v1 : Int32} {v2 : Int32} {r : Nat}  (h : f_X7_proof I P v1 v2 = some (Sum.inr r)) (E : EndX X cX7_proof RX7 3 (some .int) 9 (n + 1) r I P O D Q) : Here X cX7_proof RX7 3 (some .int) 9 (n + 1) 0 [some (.inr (.inr (7, 0, 0))), some (.inl v1), some (.inl v2)] [] I P O D n Q := by
  unfold f_X7_proof at h
  refine h_aload_n dX7_proof_0 rfl ?_
  refine h_iload_n dX7_proof_1 rfl ?_
  rcases thb_X h with hh1 | ⟨y1, hh1, h⟩
  · exact h_callVX (as := [.inl v1]) (mx_X7_requireCase  hh1) cw_X7_194 dX7_proof_2 rfl ok_7 (by decide) rfl rfl E
  refine h_cVv [.inl v1] (m_X7_requireCase  hh1) cw_X7_194 dX7_proof_2 rfl ok_7 (by decide) rfl (Or.inr rfl) rfl ?_
  refine h_aload_n dX7_proof_5 rfl ?_
  refine h_iload_n dX7_proof_6 rfl ?_
  rcases thb_X h with hh2 | ⟨y2, hh2, h⟩
  · exact h_callVX (as := [.inl v2]) (mx_X7_requireTown  hh2) cw_X7_149 dX7_proof_7 rfl ok_7 (by decide) rfl rfl E
  refine h_cVv [.inl v2] (m_X7_requireTown  hh2) cw_X7_149 dX7_proof_7 rfl ok_7 (by decide) rfl (Or.inr rfl) rfl ?_
  refine h_aload_n dX7_proof_10 rfl ?_
  refine g_X7_16  dX7_proof_11 ?_
  obtain ⟨g1, h⟩ := gd_some h
  have w1 := of_decide_eq_true g1
  refine g_X7_197 (by omega) dX7_proof_14 ?_
  refine h_iload_n dX7_proof_17 rfl ?_
  obtain ⟨g2, h⟩ := gd_some h
  refine ag_39 (by omega) v1.toNatClampNeg rfl dX7_proof_18 g2 ?_
  have w2 := inb_lt g2
  refine h_iload_n dX7_proof_19 rfl ?_
  obtain ⟨g3, h⟩ := gd_some h
  refine al_40 (by omega) (by omega) v2.toNatClampNeg rfl dX7_proof_20 g3 ?_
  cases h
theorem m_X7_proof {I : Mem} {P : PMem} {O : Nat → Int64} {D : Bool} {n : Nat} {v1 : Int32} {v2 : Int32} {r : (Int32)}  (h : f_X7_proof I P v1 v2 = some (Sum.inl r)) : MethR yX7_proof cX7_proof 3 (some .int) 9 [.inr (.inr (7, 0, 0)), .inl v1, .inl v2] I P O D n (some (.inl r)) I P O D n := meth_R (Nat.le_refl _) (by decide) rfl (Nat.le_of_ble_eq_true rfl) rfl (fun X Q E => b_X7_proof X Q  h E)
theorem mx_X7_proof {I : Mem} {P : PMem} {O : Nat → Int64} {D : Bool} {n : Nat} {v1 : Int32} {v2 : Int32} {r : Nat}  (h : f_X7_proof I P v1 v2 = some (Sum.inr r)) : MethX yX7_proof cX7_proof 3 (some .int) 9 [.inr (.inr (7, 0, 0)), .inl v1, .inl v2] I P O D n r I P O D (n + 1) := meth_X (Nat.le_succ _) (by decide) rfl (Nat.le_of_ble_eq_true rfl) rfl (fun X Q E => bx_X7_proof X Q  h E)
def f_X7_said   (I : Mem) (P : PMem) (v1 : Int32) (v2 : Int32) (v3 : Int32) : Option ((Int32 × Mem × PMem) ⊕ Nat) :=
  thb (f_X7_requireCase I P v1) fun y1 =>
  thb (f_X7_requireJudge I P v2) fun y2 =>
  thb (f_X7_requireWhat I v3 (3 : Int32)) fun y3 =>
  (f_X7_settledCourt I P).bind fun y4 =>
  (if v3 = (0 : Int32) then (gd (inb v1 6) <|
  gd (inb v2 5) <|
  some (Sum.inl ((y4.1 20 0 v1.toNatClampNeg v2.toNatClampNeg), y4.1, y4.2))) else (if v3 = (1 : Int32) then (gd (inb v1 6) <|
  gd (inb v2 5) <|
  some (Sum.inl ((y4.1 16 0 v1.toNatClampNeg v2.toNatClampNeg), y4.1, y4.2))) else (if v3 = (2 : Int32) then (gd (inb v1 6) <|
  gd (inb v2 5) <|
  some (Sum.inl ((y4.1 18 0 v1.toNatClampNeg v2.toNatClampNeg), y4.1, y4.2))) else ((f_X1_voids y4.1 0 v1).bind fun y5 =>
  some (Sum.inl (((jushr y5 v2) &&& (1 : Int32)), y4.1, y4.2))))))
theorem b_X7_said (X : CX) (Q : State → Prop) {I : Mem} {P : PMem} {O : Nat → Int64} {D : Bool} {n : Nat} {v1 : Int32} {v2 : Int32} {v3 : Int32} {r : (Int32 × Mem × PMem)}  (h : f_X7_said I P v1 v2 v3 = some (Sum.inl r)) (E : EndR X cX7_said RX7 5 (some .int) 9 n (some (.inl r.1)) r.2.1 r.2.2 O D Q) : Here X cX7_said RX7 5 (some .int) 9 n 0 [some (.inr (.inr (7, 0, 0))), some (.inl v1), some (.inl v2), some (.inl v3), none] [] I P O D n Q := by
  unfold f_X7_said at h
  refine h_aload_n dX7_said_0 rfl ?_
  refine h_iload_n dX7_said_1 rfl ?_
  obtain ⟨y1, hh1, h⟩ := thb_R h
  refine h_cVv [.inl v1] (m_X7_requireCase  hh1) cw_X7_194 dX7_said_2 rfl ok_7 (by decide) rfl (Or.inr rfl) rfl ?_
  refine h_aload_n dX7_said_5 rfl ?_
  refine h_iload_n dX7_said_6 rfl ?_
  obtain ⟨y2, hh2, h⟩ := thb_R h
  refine h_cVv [.inl v2] (m_X7_requireJudge  hh2) cw_X7_163 dX7_said_7 rfl ok_7 (by decide) rfl (Or.inr rfl) rfl ?_
  refine h_iload_n dX7_said_10 rfl ?_
  refine h_iconst (3 : Int32) dX7_said_11 k_iconst_3 ?_
  obtain ⟨y3, hh3, h⟩ := thb_R h
  refine h_cSv [.inl v3, .inl (3 : Int32)] (m_X7_requireWhat  hh3) cs_X7_152 dX7_said_12 rfl (by decide) rfl (Or.inr rfl) rfl ?_
  refine h_aload_n dX7_said_15 rfl ?_
  obtain ⟨y4, hh4, h⟩ := obd_some h
  refine h_cVa [] (m_X7_settledCourt  hh4) cw_X7_131 dX7_said_16 rfl ok_7 (by decide) rfl (Or.inr rfl) rfl ?_
  refine h_astore dX7_said_19 (by decide) rfl ?_
  refine h_iload_n dX7_said_21 rfl ?_
  by_cases q1 : v3 = (0 : Int32)
  · rw [if_pos q1] at h
    refine h_tswIn (tgt := 48) 0 dX7_said_22 (by rw [q1]; decide) (by decide) rfl (by decide) ?_
    refine h_aload dX7_said_48 rfl ?_
    refine g_X7_200 (by decide) dX7_said_50 ?_
    refine h_iload_n dX7_said_53 rfl ?_
    obtain ⟨g1, h⟩ := gd_some h
    refine ag_19 (by decide) v1.toNatClampNeg rfl dX7_said_54 g1 ?_
    have w1 := inb_lt g1
    refine h_iload_n dX7_said_55 rfl ?_
    obtain ⟨g2, h⟩ := gd_some h
    refine al_20 (by decide) (by omega) v2.toNatClampNeg rfl dX7_said_56 g2 ?_
    cases h
    exact h_iret dX7_said_57 rfl E
  · rw [if_neg q1] at h
    by_cases q2 : v3 = (1 : Int32)
    · rw [if_pos q2] at h
      refine h_tswIn (tgt := 58) 1 dX7_said_22 (by rw [q2]; decide) (by decide) rfl (by decide) ?_
      refine h_aload dX7_said_58 rfl ?_
      refine g_X7_203 (by decide) dX7_said_60 ?_
      refine h_iload_n dX7_said_63 rfl ?_
      obtain ⟨g3, h⟩ := gd_some h
      refine ag_15 (by decide) v1.toNatClampNeg rfl dX7_said_64 g3 ?_
      have w2 := inb_lt g3
      refine h_iload_n dX7_said_65 rfl ?_
      obtain ⟨g4, h⟩ := gd_some h
      refine al_16 (by decide) (by omega) v2.toNatClampNeg rfl dX7_said_66 g4 ?_
      cases h
      exact h_iret dX7_said_67 rfl E
    · rw [if_neg q2] at h
      by_cases q3 : v3 = (2 : Int32)
      · rw [if_pos q3] at h
        refine h_tswIn (tgt := 68) 2 dX7_said_22 (by rw [q3]; decide) (by decide) rfl (by decide) ?_
        refine h_aload dX7_said_68 rfl ?_
        refine g_X7_206 (by decide) dX7_said_70 ?_
        refine h_iload_n dX7_said_73 rfl ?_
        obtain ⟨g5, h⟩ := gd_some h
        refine ag_17 (by decide) v1.toNatClampNeg rfl dX7_said_74 g5 ?_
        have w3 := inb_lt g5
        refine h_iload_n dX7_said_75 rfl ?_
        obtain ⟨g6, h⟩ := gd_some h
        refine al_18 (by decide) (by omega) v2.toNatClampNeg rfl dX7_said_76 g6 ?_
        cases h
        exact h_iret dX7_said_77 rfl E
      · rw [if_neg q3] at h
        refine h_tswOut (tgt := 78) dX7_said_22 ?_ (by decide) ?_
        · have n0 : v3.toInt ≠ 0 := fun e => q1 (Int32.toInt_inj.mp (e.trans (by decide)))
          have n1 : v3.toInt ≠ 1 := fun e => q2 (Int32.toInt_inj.mp (e.trans (by decide)))
          have n2 : v3.toInt ≠ 2 := fun e => q3 (Int32.toInt_inj.mp (e.trans (by decide)))
          omega
        · refine h_aload dX7_said_78 rfl ?_
          refine h_iload_n dX7_said_80 rfl ?_
          obtain ⟨y5, hh5, h⟩ := obd_some h
          refine h_cVi [.inl v1] (m_X1_voids (by decide) hh5) cw_X7_209 dX7_said_81 rfl (ok_1 (by decide)) (by decide) rfl (Or.inr rfl) rfl ?_
          refine h_iload_n dX7_said_84 rfl ?_
          refine h_ushr dX7_said_85 ?_
          refine h_iconst (1 : Int32) dX7_said_86 k_iconst_1 ?_
          refine h_iand dX7_said_87 ?_
          cases h
          exact h_iret dX7_said_88 rfl E
theorem bx_X7_said (X : CX) (Q : State → Prop) {I : Mem} {P : PMem} {O : Nat → Int64} {D : Bool} {n : Nat} {v1 : Int32} {v2 : Int32} {v3 : Int32} {r : Nat}  (h : f_X7_said I P v1 v2 v3 = some (Sum.inr r)) (E : EndX X cX7_said RX7 5 (some .int) 9 (n + 1) r I P O D Q) : Here X cX7_said RX7 5 (some .int) 9 (n + 1) 0 [some (.inr (.inr (7, 0, 0))), some (.inl v1), some (.inl v2), some (.inl v3), none] [] I P O D n Q := by
  unfold f_X7_said at h
  refine h_aload_n dX7_said_0 rfl ?_
  refine h_iload_n dX7_said_1 rfl ?_
  rcases thb_X h with hh1 | ⟨y1, hh1, h⟩
  · exact h_callVX (as := [.inl v1]) (mx_X7_requireCase  hh1) cw_X7_194 dX7_said_2 rfl ok_7 (by decide) rfl rfl E
  refine h_cVv [.inl v1] (m_X7_requireCase  hh1) cw_X7_194 dX7_said_2 rfl ok_7 (by decide) rfl (Or.inr rfl) rfl ?_
  refine h_aload_n dX7_said_5 rfl ?_
  refine h_iload_n dX7_said_6 rfl ?_
  rcases thb_X h with hh2 | ⟨y2, hh2, h⟩
  · exact h_callVX (as := [.inl v2]) (mx_X7_requireJudge  hh2) cw_X7_163 dX7_said_7 rfl ok_7 (by decide) rfl rfl E
  refine h_cVv [.inl v2] (m_X7_requireJudge  hh2) cw_X7_163 dX7_said_7 rfl ok_7 (by decide) rfl (Or.inr rfl) rfl ?_
  refine h_iload_n dX7_said_10 rfl ?_
  refine h_iconst (3 : Int32) dX7_said_11 k_iconst_3 ?_
  rcases thb_X h with hh3 | ⟨y3, hh3, h⟩
  · exact h_callVX (as := [.inl v3, .inl (3 : Int32)]) (mx_X7_requireWhat  hh3) cw_X7_152 dX7_said_12 rfl (by decide) rfl rfl E
  refine h_cSv [.inl v3, .inl (3 : Int32)] (m_X7_requireWhat  hh3) cs_X7_152 dX7_said_12 rfl (by decide) rfl (Or.inr rfl) rfl ?_
  refine h_aload_n dX7_said_15 rfl ?_
  obtain ⟨y4, hh4, h⟩ := obd_some h
  refine h_cVa [] (m_X7_settledCourt  hh4) cw_X7_131 dX7_said_16 rfl ok_7 (by decide) rfl (Or.inr rfl) rfl ?_
  refine h_astore dX7_said_19 (by decide) rfl ?_
  refine h_iload_n dX7_said_21 rfl ?_
  by_cases q1 : v3 = (0 : Int32)
  · rw [if_pos q1] at h
    refine h_tswIn (tgt := 48) 0 dX7_said_22 (by rw [q1]; decide) (by decide) rfl (by decide) ?_
    refine h_aload dX7_said_48 rfl ?_
    refine g_X7_200 (by decide) dX7_said_50 ?_
    refine h_iload_n dX7_said_53 rfl ?_
    obtain ⟨g1, h⟩ := gd_some h
    refine ag_19 (by decide) v1.toNatClampNeg rfl dX7_said_54 g1 ?_
    have w1 := inb_lt g1
    refine h_iload_n dX7_said_55 rfl ?_
    obtain ⟨g2, h⟩ := gd_some h
    refine al_20 (by decide) (by omega) v2.toNatClampNeg rfl dX7_said_56 g2 ?_
    cases h
  · rw [if_neg q1] at h
    by_cases q2 : v3 = (1 : Int32)
    · rw [if_pos q2] at h
      refine h_tswIn (tgt := 58) 1 dX7_said_22 (by rw [q2]; decide) (by decide) rfl (by decide) ?_
      refine h_aload dX7_said_58 rfl ?_
      refine g_X7_203 (by decide) dX7_said_60 ?_
      refine h_iload_n dX7_said_63 rfl ?_
      obtain ⟨g3, h⟩ := gd_some h
      refine ag_15 (by decide) v1.toNatClampNeg rfl dX7_said_64 g3 ?_
      have w2 := inb_lt g3
      refine h_iload_n dX7_said_65 rfl ?_
      obtain ⟨g4, h⟩ := gd_some h
      refine al_16 (by decide) (by omega) v2.toNatClampNeg rfl dX7_said_66 g4 ?_
      cases h
    · rw [if_neg q2] at h
      by_cases q3 : v3 = (2 : Int32)
      · rw [if_pos q3] at h
        refine h_tswIn (tgt := 68) 2 dX7_said_22 (by rw [q3]; decide) (by decide) rfl (by decide) ?_
        refine h_aload dX7_said_68 rfl ?_
        refine g_X7_206 (by decide) dX7_said_70 ?_
        refine h_iload_n dX7_said_73 rfl ?_
        obtain ⟨g5, h⟩ := gd_some h
        refine ag_17 (by decide) v1.toNatClampNeg rfl dX7_said_74 g5 ?_
        have w3 := inb_lt g5
        refine h_iload_n dX7_said_75 rfl ?_
        obtain ⟨g6, h⟩ := gd_some h
        refine al_18 (by decide) (by omega) v2.toNatClampNeg rfl dX7_said_76 g6 ?_
        cases h
      · rw [if_neg q3] at h
        refine h_tswOut (tgt := 78) dX7_said_22 ?_ (by decide) ?_
        · have n0 : v3.toInt ≠ 0 := fun e => q1 (Int32.toInt_inj.mp (e.trans (by decide)))
          have n1 : v3.toInt ≠ 1 := fun e => q2 (Int32.toInt_inj.mp (e.trans (by decide)))
          have n2 : v3.toInt ≠ 2 := fun e => q3 (Int32.toInt_inj.mp (e.trans (by decide)))
          omega
        · refine h_aload dX7_said_78 rfl ?_
          refine h_iload_n dX7_said_80 rfl ?_
          obtain ⟨y5, hh5, h⟩ := obd_some h
          refine h_cVi [.inl v1] (m_X1_voids (by decide) hh5) cw_X7_209 dX7_said_81 rfl (ok_1 (by decide)) (by decide) rfl (Or.inr rfl) rfl ?_
          refine h_iload_n dX7_said_84 rfl ?_
          refine h_ushr dX7_said_85 ?_
          refine h_iconst (1 : Int32) dX7_said_86 k_iconst_1 ?_
          refine h_iand dX7_said_87 ?_
          cases h
theorem m_X7_said {I : Mem} {P : PMem} {O : Nat → Int64} {D : Bool} {n : Nat} {v1 : Int32} {v2 : Int32} {v3 : Int32} {r : (Int32 × Mem × PMem)}  (h : f_X7_said I P v1 v2 v3 = some (Sum.inl r)) : MethR yX7_said cX7_said 5 (some .int) 9 [.inr (.inr (7, 0, 0)), .inl v1, .inl v2, .inl v3] I P O D n (some (.inl r.1)) r.2.1 r.2.2 O D n := meth_R (Nat.le_refl _) (by decide) rfl (Nat.le_of_ble_eq_true rfl) rfl (fun X Q E => b_X7_said X Q  h E)
theorem mx_X7_said {I : Mem} {P : PMem} {O : Nat → Int64} {D : Bool} {n : Nat} {v1 : Int32} {v2 : Int32} {v3 : Int32} {r : Nat}  (h : f_X7_said I P v1 v2 v3 = some (Sum.inr r)) : MethX yX7_said cX7_said 5 (some .int) 9 [.inr (.inr (7, 0, 0)), .inl v1, .inl v2, .inl v3] I P O D n r I P O D (n + 1) := meth_X (Nat.le_succ _) (by decide) rfl (Nat.le_of_ble_eq_true rfl) rfl (fun X Q E => bx_X7_said X Q  h E)
def f_X7_met   (I : Mem) (P : PMem) (v1 : Int32) (v2 : Int32) : Option ((Int32 × Mem × PMem) ⊕ Nat) :=
  thb (f_X7_requireJudge I P v1) fun y1 =>
  thb (f_X7_requireJudge I P v2) fun y2 =>
  if v1 = v2 then (some (Sum.inr 0)) else ((f_X7_settledCourt I P).bind fun y3 =>
  gd (inb v1 5) <|
  gd (inb v2 5) <|
  some (Sum.inl ((y3.1 23 0 v1.toNatClampNeg v2.toNatClampNeg), y3.1, y3.2)))
theorem b_X7_met (X : CX) (Q : State → Prop) {I : Mem} {P : PMem} {O : Nat → Int64} {D : Bool} {n : Nat} {v1 : Int32} {v2 : Int32} {r : (Int32 × Mem × PMem)}  (h : f_X7_met I P v1 v2 = some (Sum.inl r)) (E : EndR X cX7_met RX7 3 (some .int) 9 n (some (.inl r.1)) r.2.1 r.2.2 O D Q) : Here X cX7_met RX7 3 (some .int) 9 n 0 [some (.inr (.inr (7, 0, 0))), some (.inl v1), some (.inl v2)] [] I P O D n Q := by
  unfold f_X7_met at h
  refine h_aload_n dX7_met_0 rfl ?_
  refine h_iload_n dX7_met_1 rfl ?_
  obtain ⟨y1, hh1, h⟩ := thb_R h
  refine h_cVv [.inl v1] (m_X7_requireJudge  hh1) cw_X7_163 dX7_met_2 rfl ok_7 (by decide) rfl (Or.inr rfl) rfl ?_
  refine h_aload_n dX7_met_5 rfl ?_
  refine h_iload_n dX7_met_6 rfl ?_
  obtain ⟨y2, hh2, h⟩ := thb_R h
  refine h_cVv [.inl v2] (m_X7_requireJudge  hh2) cw_X7_163 dX7_met_7 rfl ok_7 (by decide) rfl (Or.inr rfl) rfl ?_
  refine h_iload_n dX7_met_10 rfl ?_
  refine h_iload_n dX7_met_11 rfl ?_
  refine h_icmp_ne (tgt := 25) dX7_met_12 (by decide) (fun q1 => ?_) (fun q1 => ?_)
  · rw [if_neg q1] at h
    refine h_aload_n dX7_met_25 rfl ?_
    obtain ⟨y3, hh3, h⟩ := obd_some h
    refine h_cVa [] (m_X7_settledCourt  hh3) cw_X7_131 dX7_met_26 rfl ok_7 (by decide) rfl (Or.inr rfl) rfl ?_
    refine g_X7_214 (by decide) dX7_met_29 ?_
    refine h_iload_n dX7_met_32 rfl ?_
    obtain ⟨g1, h⟩ := gd_some h
    refine ag_22 (by decide) v1.toNatClampNeg rfl dX7_met_33 g1 ?_
    have w1 := inb_lt g1
    refine h_iload_n dX7_met_34 rfl ?_
    obtain ⟨g2, h⟩ := gd_some h
    refine al_23 (by decide) (by omega) v2.toNatClampNeg rfl dX7_met_35 g2 ?_
    cases h
    exact h_iret dX7_met_36 rfl E
  · rw [if_pos q1] at h
    cases h
theorem bx_X7_met (X : CX) (Q : State → Prop) {I : Mem} {P : PMem} {O : Nat → Int64} {D : Bool} {n : Nat} {v1 : Int32} {v2 : Int32} {r : Nat}  (h : f_X7_met I P v1 v2 = some (Sum.inr r)) (E : EndX X cX7_met RX7 3 (some .int) 9 (n + 1) r I P O D Q) : Here X cX7_met RX7 3 (some .int) 9 (n + 1) 0 [some (.inr (.inr (7, 0, 0))), some (.inl v1), some (.inl v2)] [] I P O D n Q := by
  unfold f_X7_met at h
  refine h_aload_n dX7_met_0 rfl ?_
  refine h_iload_n dX7_met_1 rfl ?_
  rcases thb_X h with hh1 | ⟨y1, hh1, h⟩
  · exact h_callVX (as := [.inl v1]) (mx_X7_requireJudge  hh1) cw_X7_163 dX7_met_2 rfl ok_7 (by decide) rfl rfl E
  refine h_cVv [.inl v1] (m_X7_requireJudge  hh1) cw_X7_163 dX7_met_2 rfl ok_7 (by decide) rfl (Or.inr rfl) rfl ?_
  refine h_aload_n dX7_met_5 rfl ?_
  refine h_iload_n dX7_met_6 rfl ?_
  rcases thb_X h with hh2 | ⟨y2, hh2, h⟩
  · exact h_callVX (as := [.inl v2]) (mx_X7_requireJudge  hh2) cw_X7_163 dX7_met_7 rfl ok_7 (by decide) rfl rfl E
  refine h_cVv [.inl v2] (m_X7_requireJudge  hh2) cw_X7_163 dX7_met_7 rfl ok_7 (by decide) rfl (Or.inr rfl) rfl ?_
  refine h_iload_n dX7_met_10 rfl ?_
  refine h_iload_n dX7_met_11 rfl ?_
  refine h_icmp_ne (tgt := 25) dX7_met_12 (by decide) (fun q1 => ?_) (fun q1 => ?_)
  · rw [if_neg q1] at h
    refine h_aload_n dX7_met_25 rfl ?_
    obtain ⟨y3, hh3, h⟩ := obd_some h
    refine h_cVa [] (m_X7_settledCourt  hh3) cw_X7_131 dX7_met_26 rfl ok_7 (by decide) rfl (Or.inr rfl) rfl ?_
    refine g_X7_214 (by decide) dX7_met_29 ?_
    refine h_iload_n dX7_met_32 rfl ?_
    obtain ⟨g1, h⟩ := gd_some h
    refine ag_22 (by decide) v1.toNatClampNeg rfl dX7_met_33 g1 ?_
    have w1 := inb_lt g1
    refine h_iload_n dX7_met_34 rfl ?_
    obtain ⟨g2, h⟩ := gd_some h
    refine al_23 (by decide) (by omega) v2.toNatClampNeg rfl dX7_met_35 g2 ?_
    cases h
  · rw [if_pos q1] at h
    cases h
    exact h_throw (text := "both are one judge") (j := 9) tw_0 (by decide) (by decide) rfl dX7_met_15 dX7_met_18 dX7_met_19 dX7_met_21 dX7_met_24 E
theorem m_X7_met {I : Mem} {P : PMem} {O : Nat → Int64} {D : Bool} {n : Nat} {v1 : Int32} {v2 : Int32} {r : (Int32 × Mem × PMem)}  (h : f_X7_met I P v1 v2 = some (Sum.inl r)) : MethR yX7_met cX7_met 3 (some .int) 9 [.inr (.inr (7, 0, 0)), .inl v1, .inl v2] I P O D n (some (.inl r.1)) r.2.1 r.2.2 O D n := meth_R (Nat.le_refl _) (by decide) rfl (Nat.le_of_ble_eq_true rfl) rfl (fun X Q E => b_X7_met X Q  h E)
theorem mx_X7_met {I : Mem} {P : PMem} {O : Nat → Int64} {D : Bool} {n : Nat} {v1 : Int32} {v2 : Int32} {r : Nat}  (h : f_X7_met I P v1 v2 = some (Sum.inr r)) : MethX yX7_met cX7_met 3 (some .int) 9 [.inr (.inr (7, 0, 0)), .inl v1, .inl v2] I P O D n r I P O D (n + 1) := meth_X (Nat.le_succ _) (by decide) rfl (Nat.le_of_ble_eq_true rfl) rfl (fun X Q E => bx_X7_met X Q  h E)
def f_X7_guilty   (I : Mem) (P : PMem) (v1 : Int32) (v2 : Int32) : Option ((Int32 × Mem × PMem) ⊕ Nat) :=
  thb (f_X7_requireCase I P v1) fun y1 =>
  thb (f_X7_requireWhat I v2 (1 : Int32)) fun y2 =>
  (f_X7_settledCourt I P).bind fun y3 =>
  if v2 = 0 then ((f_X1_trioDay y3.1 y3.2 0 v1).bind fun y4 =>
  some (Sum.inl (y4, y3.1, y3.2))) else (gd (inb v1 6) <|
  some (Sum.inl ((y3.1 24 0 0 v1.toNatClampNeg), y3.1, y3.2)))
theorem b_X7_guilty (X : CX) (Q : State → Prop) {I : Mem} {P : PMem} {O : Nat → Int64} {D : Bool} {n : Nat} {v1 : Int32} {v2 : Int32} {r : (Int32 × Mem × PMem)}  (h : f_X7_guilty I P v1 v2 = some (Sum.inl r)) (E : EndR X cX7_guilty RX7 4 (some .int) 9 n (some (.inl r.1)) r.2.1 r.2.2 O D Q) : Here X cX7_guilty RX7 4 (some .int) 9 n 0 [some (.inr (.inr (7, 0, 0))), some (.inl v1), some (.inl v2), none] [] I P O D n Q := by
  unfold f_X7_guilty at h
  refine h_aload_n dX7_guilty_0 rfl ?_
  refine h_iload_n dX7_guilty_1 rfl ?_
  obtain ⟨y1, hh1, h⟩ := thb_R h
  refine h_cVv [.inl v1] (m_X7_requireCase  hh1) cw_X7_194 dX7_guilty_2 rfl ok_7 (by decide) rfl (Or.inr rfl) rfl ?_
  refine h_iload_n dX7_guilty_5 rfl ?_
  refine h_iconst (1 : Int32) dX7_guilty_6 k_iconst_1 ?_
  obtain ⟨y2, hh2, h⟩ := thb_R h
  refine h_cSv [.inl v2, .inl (1 : Int32)] (m_X7_requireWhat  hh2) cs_X7_152 dX7_guilty_7 rfl (by decide) rfl (Or.inr rfl) rfl ?_
  refine h_aload_n dX7_guilty_10 rfl ?_
  obtain ⟨y3, hh3, h⟩ := obd_some h
  refine h_cVa [] (m_X7_settledCourt  hh3) cw_X7_131 dX7_guilty_11 rfl ok_7 (by decide) rfl (Or.inr rfl) rfl ?_
  refine h_astore_n dX7_guilty_14 (by decide) rfl ?_
  refine h_iload_n dX7_guilty_15 rfl ?_
  refine h_if_ne (tgt := 27) dX7_guilty_16 (by decide) (fun q1 => ?_) (fun q1 => ?_)
  · rw [if_neg q1] at h
    refine h_aload_n dX7_guilty_27 rfl ?_
    refine g_X7_220 (by decide) dX7_guilty_28 ?_
    refine h_iload_n dX7_guilty_31 rfl ?_
    obtain ⟨g1, h⟩ := gd_some h
    refine al_24 (by decide) v1.toNatClampNeg rfl dX7_guilty_32 g1 ?_
    cases h
    exact h_iret dX7_guilty_33 rfl E
  · rw [if_pos q1] at h
    refine h_aload_n dX7_guilty_19 rfl ?_
    refine h_iload_n dX7_guilty_20 rfl ?_
    obtain ⟨y4, hh4, h⟩ := obd_some h
    refine h_cVi [.inl v1] (m_X1_trioDay (by decide) hh4) cw_X7_217 dX7_guilty_21 rfl (ok_1 (by decide)) (by decide) rfl (Or.inr rfl) rfl ?_
    refine h_goto (tgt := 33) dX7_guilty_24 (by decide) ?_
    cases h
    exact h_iret dX7_guilty_33 rfl E
theorem bx_X7_guilty (X : CX) (Q : State → Prop) {I : Mem} {P : PMem} {O : Nat → Int64} {D : Bool} {n : Nat} {v1 : Int32} {v2 : Int32} {r : Nat}  (h : f_X7_guilty I P v1 v2 = some (Sum.inr r)) (E : EndX X cX7_guilty RX7 4 (some .int) 9 (n + 1) r I P O D Q) : Here X cX7_guilty RX7 4 (some .int) 9 (n + 1) 0 [some (.inr (.inr (7, 0, 0))), some (.inl v1), some (.inl v2), none] [] I P O D n Q := by
  unfold f_X7_guilty at h
  refine h_aload_n dX7_guilty_0 rfl ?_
  refine h_iload_n dX7_guilty_1 rfl ?_
  rcases thb_X h with hh1 | ⟨y1, hh1, h⟩
  · exact h_callVX (as := [.inl v1]) (mx_X7_requireCase  hh1) cw_X7_194 dX7_guilty_2 rfl ok_7 (by decide) rfl rfl E
  refine h_cVv [.inl v1] (m_X7_requireCase  hh1) cw_X7_194 dX7_guilty_2 rfl ok_7 (by decide) rfl (Or.inr rfl) rfl ?_
  refine h_iload_n dX7_guilty_5 rfl ?_
  refine h_iconst (1 : Int32) dX7_guilty_6 k_iconst_1 ?_
  rcases thb_X h with hh2 | ⟨y2, hh2, h⟩
  · exact h_callVX (as := [.inl v2, .inl (1 : Int32)]) (mx_X7_requireWhat  hh2) cw_X7_152 dX7_guilty_7 rfl (by decide) rfl rfl E
  refine h_cSv [.inl v2, .inl (1 : Int32)] (m_X7_requireWhat  hh2) cs_X7_152 dX7_guilty_7 rfl (by decide) rfl (Or.inr rfl) rfl ?_
  refine h_aload_n dX7_guilty_10 rfl ?_
  obtain ⟨y3, hh3, h⟩ := obd_some h
  refine h_cVa [] (m_X7_settledCourt  hh3) cw_X7_131 dX7_guilty_11 rfl ok_7 (by decide) rfl (Or.inr rfl) rfl ?_
  refine h_astore_n dX7_guilty_14 (by decide) rfl ?_
  refine h_iload_n dX7_guilty_15 rfl ?_
  refine h_if_ne (tgt := 27) dX7_guilty_16 (by decide) (fun q1 => ?_) (fun q1 => ?_)
  · rw [if_neg q1] at h
    refine h_aload_n dX7_guilty_27 rfl ?_
    refine g_X7_220 (by decide) dX7_guilty_28 ?_
    refine h_iload_n dX7_guilty_31 rfl ?_
    obtain ⟨g1, h⟩ := gd_some h
    refine al_24 (by decide) v1.toNatClampNeg rfl dX7_guilty_32 g1 ?_
    cases h
  · rw [if_pos q1] at h
    refine h_aload_n dX7_guilty_19 rfl ?_
    refine h_iload_n dX7_guilty_20 rfl ?_
    obtain ⟨y4, hh4, h⟩ := obd_some h
    refine h_cVi [.inl v1] (m_X1_trioDay (by decide) hh4) cw_X7_217 dX7_guilty_21 rfl (ok_1 (by decide)) (by decide) rfl (Or.inr rfl) rfl ?_
    refine h_goto (tgt := 33) dX7_guilty_24 (by decide) ?_
    cases h
theorem m_X7_guilty {I : Mem} {P : PMem} {O : Nat → Int64} {D : Bool} {n : Nat} {v1 : Int32} {v2 : Int32} {r : (Int32 × Mem × PMem)}  (h : f_X7_guilty I P v1 v2 = some (Sum.inl r)) : MethR yX7_guilty cX7_guilty 4 (some .int) 9 [.inr (.inr (7, 0, 0)), .inl v1, .inl v2] I P O D n (some (.inl r.1)) r.2.1 r.2.2 O D n := meth_R (Nat.le_refl _) (by decide) rfl (Nat.le_of_ble_eq_true rfl) rfl (fun X Q E => b_X7_guilty X Q  h E)
theorem mx_X7_guilty {I : Mem} {P : PMem} {O : Nat → Int64} {D : Bool} {n : Nat} {v1 : Int32} {v2 : Int32} {r : Nat}  (h : f_X7_guilty I P v1 v2 = some (Sum.inr r)) : MethX yX7_guilty cX7_guilty 4 (some .int) 9 [.inr (.inr (7, 0, 0)), .inl v1, .inl v2] I P O D n r I P O D (n + 1) := meth_X (Nat.le_succ _) (by decide) rfl (Nat.le_of_ble_eq_true rfl) rfl (fun X Q E => bx_X7_guilty X Q  h E)
def f_X7_news   (I : Mem) (P : PMem) (v1 : Int32) (v2 : Int32) : Option ((Int32 × Mem × PMem) ⊕ Nat) :=
  thb (f_X7_requireCase I P v1) fun y1 =>
  thb (f_X7_requireTown I P v2) fun y2 =>
  (f_X7_settledCourt I P).bind fun y3 =>
  (f_X1_firstNews y3.1 y3.2 0 v1 v2).bind fun y4 =>
  some (Sum.inl (y4, y3.1, y3.2))
theorem b_X7_news (X : CX) (Q : State → Prop) {I : Mem} {P : PMem} {O : Nat → Int64} {D : Bool} {n : Nat} {v1 : Int32} {v2 : Int32} {r : (Int32 × Mem × PMem)}  (h : f_X7_news I P v1 v2 = some (Sum.inl r)) (E : EndR X cX7_news RX7 3 (some .int) 9 n (some (.inl r.1)) r.2.1 r.2.2 O D Q) : Here X cX7_news RX7 3 (some .int) 9 n 0 [some (.inr (.inr (7, 0, 0))), some (.inl v1), some (.inl v2)] [] I P O D n Q := by
  unfold f_X7_news at h
  refine h_aload_n dX7_news_0 rfl ?_
  refine h_iload_n dX7_news_1 rfl ?_
  obtain ⟨y1, hh1, h⟩ := thb_R h
  refine h_cVv [.inl v1] (m_X7_requireCase  hh1) cw_X7_194 dX7_news_2 rfl ok_7 (by decide) rfl (Or.inr rfl) rfl ?_
  refine h_aload_n dX7_news_5 rfl ?_
  refine h_iload_n dX7_news_6 rfl ?_
  obtain ⟨y2, hh2, h⟩ := thb_R h
  refine h_cVv [.inl v2] (m_X7_requireTown  hh2) cw_X7_149 dX7_news_7 rfl ok_7 (by decide) rfl (Or.inr rfl) rfl ?_
  refine h_aload_n dX7_news_10 rfl ?_
  obtain ⟨y3, hh3, h⟩ := obd_some h
  refine h_cVa [] (m_X7_settledCourt  hh3) cw_X7_131 dX7_news_11 rfl ok_7 (by decide) rfl (Or.inr rfl) rfl ?_
  refine h_iload_n dX7_news_14 rfl ?_
  refine h_iload_n dX7_news_15 rfl ?_
  obtain ⟨y4, hh4, h⟩ := obd_some h
  refine h_cVi [.inl v1, .inl v2] (m_X1_firstNews (by decide) hh4) cw_X7_223 dX7_news_16 rfl (ok_1 (by decide)) (by decide) rfl (Or.inr rfl) rfl ?_
  cases h
  exact h_iret dX7_news_19 rfl E
theorem bx_X7_news (X : CX) (Q : State → Prop) {I : Mem} {P : PMem} {O : Nat → Int64} {D : Bool} {n : Nat} {v1 : Int32} {v2 : Int32} {r : Nat}  (h : f_X7_news I P v1 v2 = some (Sum.inr r)) (E : EndX X cX7_news RX7 3 (some .int) 9 (n + 1) r I P O D Q) : Here X cX7_news RX7 3 (some .int) 9 (n + 1) 0 [some (.inr (.inr (7, 0, 0))), some (.inl v1), some (.inl v2)] [] I P O D n Q := by
  unfold f_X7_news at h
  refine h_aload_n dX7_news_0 rfl ?_
  refine h_iload_n dX7_news_1 rfl ?_
  rcases thb_X h with hh1 | ⟨y1, hh1, h⟩
  · exact h_callVX (as := [.inl v1]) (mx_X7_requireCase  hh1) cw_X7_194 dX7_news_2 rfl ok_7 (by decide) rfl rfl E
  refine h_cVv [.inl v1] (m_X7_requireCase  hh1) cw_X7_194 dX7_news_2 rfl ok_7 (by decide) rfl (Or.inr rfl) rfl ?_
  refine h_aload_n dX7_news_5 rfl ?_
  refine h_iload_n dX7_news_6 rfl ?_
  rcases thb_X h with hh2 | ⟨y2, hh2, h⟩
  · exact h_callVX (as := [.inl v2]) (mx_X7_requireTown  hh2) cw_X7_149 dX7_news_7 rfl ok_7 (by decide) rfl rfl E
  refine h_cVv [.inl v2] (m_X7_requireTown  hh2) cw_X7_149 dX7_news_7 rfl ok_7 (by decide) rfl (Or.inr rfl) rfl ?_
  refine h_aload_n dX7_news_10 rfl ?_
  obtain ⟨y3, hh3, h⟩ := obd_some h
  refine h_cVa [] (m_X7_settledCourt  hh3) cw_X7_131 dX7_news_11 rfl ok_7 (by decide) rfl (Or.inr rfl) rfl ?_
  refine h_iload_n dX7_news_14 rfl ?_
  refine h_iload_n dX7_news_15 rfl ?_
  obtain ⟨y4, hh4, h⟩ := obd_some h
  refine h_cVi [.inl v1, .inl v2] (m_X1_firstNews (by decide) hh4) cw_X7_223 dX7_news_16 rfl (ok_1 (by decide)) (by decide) rfl (Or.inr rfl) rfl ?_
  cases h
theorem m_X7_news {I : Mem} {P : PMem} {O : Nat → Int64} {D : Bool} {n : Nat} {v1 : Int32} {v2 : Int32} {r : (Int32 × Mem × PMem)}  (h : f_X7_news I P v1 v2 = some (Sum.inl r)) : MethR yX7_news cX7_news 3 (some .int) 9 [.inr (.inr (7, 0, 0)), .inl v1, .inl v2] I P O D n (some (.inl r.1)) r.2.1 r.2.2 O D n := meth_R (Nat.le_refl _) (by decide) rfl (Nat.le_of_ble_eq_true rfl) rfl (fun X Q E => b_X7_news X Q  h E)
theorem mx_X7_news {I : Mem} {P : PMem} {O : Nat → Int64} {D : Bool} {n : Nat} {v1 : Int32} {v2 : Int32} {r : Nat}  (h : f_X7_news I P v1 v2 = some (Sum.inr r)) : MethX yX7_news cX7_news 3 (some .int) 9 [.inr (.inr (7, 0, 0)), .inl v1, .inl v2] I P O D n r I P O D (n + 1) := meth_X (Nat.le_succ _) (by decide) rfl (Nat.le_of_ble_eq_true rfl) rfl (fun X Q E => bx_X7_news X Q  h E)
def f_X7_refuseAct   (I : Mem) : Option (Int32 × Mem) :=
  bnd (upd4 I 10 0 0 1 ((I 10 0 0 1) + (1 : Int32))) fun I1' =>
  some ((-1 : Int32), I1')
theorem b_X7_refuseAct (X : CX) (Q : State → Prop) {I : Mem} {P : PMem} {O : Nat → Int64} {D : Bool} {n : Nat} {r : (Int32 × Mem)}  (h : f_X7_refuseAct I = some r) (E : EndR X cX7_refuseAct RX7 1 (some .int) 2 n (some (.inl r.1)) r.2 P O D Q) : Here X cX7_refuseAct RX7 1 (some .int) 2 n 0 [some (.inr (.inr (7, 0, 0)))] [] I P O D n Q := by
  unfold f_X7_refuseAct at h
  refine h_aload_n dX7_refuseAct_0 rfl ?_
  refine g_X7_35  dX7_refuseAct_1 ?_
  refine g_X7_82 (by decide) dX7_refuseAct_4 ?_
  refine h_iconst (1 : Int32) dX7_refuseAct_7 k_iconst_1 ?_
  refine h_dup2 dX7_refuseAct_8 (fun _ => rfl) (fun _ => rfl) ?_
  refine al_10 (by decide) 1 cl_1 dX7_refuseAct_9 rfl ?_
  refine h_iconst (1 : Int32) dX7_refuseAct_10 k_iconst_1 ?_
  refine h_iadd dX7_refuseAct_11 ?_
  obtain ⟨I1', e1, h⟩ := bnd_some h
  refine as_10 (by decide) 1 cl_1 dX7_refuseAct_12 rfl ?_
  refine h_nmI e1 ?_
  refine h_iconst (-1 : Int32) dX7_refuseAct_13 k_iconst_m1 ?_
  cases h
  exact h_iret dX7_refuseAct_14 rfl E
theorem m_X7_refuseAct {I : Mem} {P : PMem} {O : Nat → Int64} {D : Bool} {n : Nat}  {r : (Int32 × Mem)}  (h : f_X7_refuseAct I = some r) : MethR yX7_refuseAct cX7_refuseAct 1 (some .int) 2 [.inr (.inr (7, 0, 0))] I P O D n (some (.inl r.1)) r.2 P O D n := meth_R (Nat.le_refl _) (by decide) rfl (Nat.le_of_ble_eq_true rfl) rfl (fun X Q E => b_X7_refuseAct X Q  h E)
def f_X7_keepAct   (I : Mem) (v1 : Int32) (v2 : Int32) (v3 : Int32) : Option (Mem) :=
  (f_X6_add 3 I v1 v2 v3).bind fun y1 =>
  bnd (upd4 y1 7 0 0 10 (0 : Int32)) fun I1' =>
  some I1'
theorem b_X7_keepAct (X : CX) (Q : State → Prop) {I : Mem} {P : PMem} {O : Nat → Int64} {D : Bool} {n : Nat} {v1 : Int32} {v2 : Int32} {v3 : Int32} {r : (Mem)}  (h : f_X7_keepAct I v1 v2 v3 = some r) (E : EndR X cX7_keepAct RX7 4 (none) 4 n none r P O D Q) : Here X cX7_keepAct RX7 4 (none) 4 n 0 [some (.inr (.inr (7, 0, 0))), some (.inl v1), some (.inl v2), some (.inl v3)] [] I P O D n Q := by
  unfold f_X7_keepAct at h
  refine h_aload_n dX7_keepAct_0 rfl ?_
  refine g_X7_35  dX7_keepAct_1 ?_
  refine g_X7_138 (by decide) dX7_keepAct_4 ?_
  refine h_iload_n dX7_keepAct_7 rfl ?_
  refine h_iload_n dX7_keepAct_8 rfl ?_
  refine h_iload_n dX7_keepAct_9 rfl ?_
  obtain ⟨y1, hh1, h⟩ := obd_some h
  refine h_cVv [.inl v1, .inl v2, .inl v3] (m_X6_add (by decide) hh1) cw_X7_241 dX7_keepAct_10 rfl (ok_6 (by decide)) (by decide) rfl (Or.inr rfl) rfl ?_
  refine h_aload_n dX7_keepAct_13 rfl ?_
  refine h_iconst (0 : Int32) dX7_keepAct_14 k_iconst_0 ?_
  obtain ⟨I1', e1, h⟩ := bnd_some h
  refine p_X7_94  rfl dX7_keepAct_15 ?_
  refine h_nmI e1 ?_
  cases h
  exact h_vret dX7_keepAct_18 rfl E
theorem m_X7_keepAct {I : Mem} {P : PMem} {O : Nat → Int64} {D : Bool} {n : Nat} {v1 : Int32} {v2 : Int32} {v3 : Int32} {r : (Mem)}  (h : f_X7_keepAct I v1 v2 v3 = some r) : MethR yX7_keepAct cX7_keepAct 4 (none) 4 [.inr (.inr (7, 0, 0)), .inl v1, .inl v2, .inl v3] I P O D n none r P O D n := meth_R (Nat.le_refl _) (by decide) rfl (Nat.le_of_ble_eq_true rfl) rfl (fun X Q E => b_X7_keepAct X Q  h E)
def f_X7_start  (P : PMem) (I : Mem) (v1 : Int32) (v2 : Int32) : Option ((Int32 × Mem) ⊕ Nat) :=
  thb (f_X7_requireJudge I P v1) fun y1 =>
  (f_X7_isOutside I v2 (60 : Int32)).bind fun y2 =>
  if y2 = 0 then (gd (inb v1 5) <|
  bnd (I 9 0 0 v1.toNatClampNeg) fun x1 =>
  bnd (upd4 I 9 0 0 v1.toNatClampNeg v2) fun I1' =>
  (f_X7_keepAct I1' (0 : Int32) v1 x1).bind fun y3 =>
  some (Sum.inl (x1, y3))) else ((f_X7_refuseAct I).bind fun y4 =>
  some (Sum.inl (y4.1, y4.2)))
theorem b_X7_start (X : CX) (Q : State → Prop) {I : Mem} {P : PMem} {O : Nat → Int64} {D : Bool} {n : Nat} {v1 : Int32} {v2 : Int32} {r : (Int32 × Mem)}  (h : f_X7_start P I v1 v2 = some (Sum.inl r)) (E : EndR X cX7_start RX7 4 (some .int) 9 n (some (.inl r.1)) r.2 P O D Q) : Here X cX7_start RX7 4 (some .int) 9 n 0 [some (.inr (.inr (7, 0, 0))), some (.inl v1), some (.inl v2), none] [] I P O D n Q := by
  unfold f_X7_start at h
  refine h_aload_n dX7_start_0 rfl ?_
  refine h_iload_n dX7_start_1 rfl ?_
  obtain ⟨y1, hh1, h⟩ := thb_R h
  refine h_cVv [.inl v1] (m_X7_requireJudge  hh1) cw_X7_163 dX7_start_2 rfl ok_7 (by decide) rfl (Or.inr rfl) rfl ?_
  refine h_iload_n dX7_start_5 rfl ?_
  refine h_bipush (60 : Int32) dX7_start_6 k_bipush_60 ?_
  obtain ⟨y2, hh2, h⟩ := obd_some h
  refine h_cSi [.inl v2, .inl (60 : Int32)] (m_X7_isOutside  hh2) cs_X7_226 dX7_start_8 rfl (by decide) rfl (Or.inr rfl) rfl ?_
  refine h_if_eq (tgt := 19) dX7_start_11 (by decide) (fun q1 => ?_) (fun q1 => ?_)
  · rw [if_pos q1] at h
    refine h_aload_n dX7_start_19 rfl ?_
    refine g_X7_35  dX7_start_20 ?_
    refine g_X7_169 (by decide) dX7_start_23 ?_
    refine h_iload_n dX7_start_26 rfl ?_
    obtain ⟨g1, h⟩ := gd_some h
    refine al_9 (by decide) v1.toNatClampNeg rfl dX7_start_27 g1 ?_
    obtain ⟨x1, e1, h⟩ := bnd_some h
    refine h_nmv e1 ?_
    refine h_istore_n dX7_start_28 (by decide) rfl ?_
    refine h_aload_n dX7_start_29 rfl ?_
    refine g_X7_35  dX7_start_30 ?_
    refine g_X7_169 (by decide) dX7_start_33 ?_
    refine h_iload_n dX7_start_36 rfl ?_
    refine h_iload_n dX7_start_37 rfl ?_
    obtain ⟨I1', e2, h⟩ := bnd_some h
    refine as_9 (by decide) v1.toNatClampNeg rfl dX7_start_38 g1 ?_
    refine h_nmI e2 ?_
    refine h_aload_n dX7_start_39 rfl ?_
    refine h_iconst (0 : Int32) dX7_start_40 k_iconst_0 ?_
    refine h_iload_n dX7_start_41 rfl ?_
    refine h_iload_n dX7_start_42 rfl ?_
    obtain ⟨y3, hh3, h⟩ := obd_some h
    refine h_cVv [.inl (0 : Int32), .inl v1, .inl x1] (m_X7_keepAct  hh3) cw_X7_233 dX7_start_43 rfl ok_7 (by decide) rfl (Or.inr rfl) rfl ?_
    refine h_iload_n dX7_start_46 rfl ?_
    cases h
    exact h_iret dX7_start_47 rfl E
  · rw [if_neg q1] at h
    refine h_aload_n dX7_start_14 rfl ?_
    obtain ⟨y4, hh4, h⟩ := obd_some h
    refine h_cVi [] (m_X7_refuseAct  hh4) cw_X7_230 dX7_start_15 rfl ok_7 (by decide) rfl (Or.inr rfl) rfl ?_
    cases h
    exact h_iret dX7_start_18 rfl E
theorem bx_X7_start (X : CX) (Q : State → Prop) {I : Mem} {P : PMem} {O : Nat → Int64} {D : Bool} {n : Nat} {v1 : Int32} {v2 : Int32} {r : Nat}  (h : f_X7_start P I v1 v2 = some (Sum.inr r)) (E : EndX X cX7_start RX7 4 (some .int) 9 (n + 1) r I P O D Q) : Here X cX7_start RX7 4 (some .int) 9 (n + 1) 0 [some (.inr (.inr (7, 0, 0))), some (.inl v1), some (.inl v2), none] [] I P O D n Q := by
  unfold f_X7_start at h
  refine h_aload_n dX7_start_0 rfl ?_
  refine h_iload_n dX7_start_1 rfl ?_
  rcases thb_X h with hh1 | ⟨y1, hh1, h⟩
  · exact h_callVX (as := [.inl v1]) (mx_X7_requireJudge  hh1) cw_X7_163 dX7_start_2 rfl ok_7 (by decide) rfl rfl E
  refine h_cVv [.inl v1] (m_X7_requireJudge  hh1) cw_X7_163 dX7_start_2 rfl ok_7 (by decide) rfl (Or.inr rfl) rfl ?_
  refine h_iload_n dX7_start_5 rfl ?_
  refine h_bipush (60 : Int32) dX7_start_6 k_bipush_60 ?_
  obtain ⟨y2, hh2, h⟩ := obd_some h
  refine h_cSi [.inl v2, .inl (60 : Int32)] (m_X7_isOutside  hh2) cs_X7_226 dX7_start_8 rfl (by decide) rfl (Or.inr rfl) rfl ?_
  refine h_if_eq (tgt := 19) dX7_start_11 (by decide) (fun q1 => ?_) (fun q1 => ?_)
  · rw [if_pos q1] at h
    refine h_aload_n dX7_start_19 rfl ?_
    refine g_X7_35  dX7_start_20 ?_
    refine g_X7_169 (by decide) dX7_start_23 ?_
    refine h_iload_n dX7_start_26 rfl ?_
    obtain ⟨g1, h⟩ := gd_some h
    refine al_9 (by decide) v1.toNatClampNeg rfl dX7_start_27 g1 ?_
    obtain ⟨x1, e1, h⟩ := bnd_some h
    refine h_nmv e1 ?_
    refine h_istore_n dX7_start_28 (by decide) rfl ?_
    refine h_aload_n dX7_start_29 rfl ?_
    refine g_X7_35  dX7_start_30 ?_
    refine g_X7_169 (by decide) dX7_start_33 ?_
    refine h_iload_n dX7_start_36 rfl ?_
    refine h_iload_n dX7_start_37 rfl ?_
    obtain ⟨I1', e2, h⟩ := bnd_some h
    refine as_9 (by decide) v1.toNatClampNeg rfl dX7_start_38 g1 ?_
    refine h_nmI e2 ?_
    refine h_aload_n dX7_start_39 rfl ?_
    refine h_iconst (0 : Int32) dX7_start_40 k_iconst_0 ?_
    refine h_iload_n dX7_start_41 rfl ?_
    refine h_iload_n dX7_start_42 rfl ?_
    obtain ⟨y3, hh3, h⟩ := obd_some h
    refine h_cVv [.inl (0 : Int32), .inl v1, .inl x1] (m_X7_keepAct  hh3) cw_X7_233 dX7_start_43 rfl ok_7 (by decide) rfl (Or.inr rfl) rfl ?_
    refine h_iload_n dX7_start_46 rfl ?_
    cases h
  · rw [if_neg q1] at h
    refine h_aload_n dX7_start_14 rfl ?_
    obtain ⟨y4, hh4, h⟩ := obd_some h
    refine h_cVi [] (m_X7_refuseAct  hh4) cw_X7_230 dX7_start_15 rfl ok_7 (by decide) rfl (Or.inr rfl) rfl ?_
    cases h
theorem m_X7_start {I : Mem} {P : PMem} {O : Nat → Int64} {D : Bool} {n : Nat} {v1 : Int32} {v2 : Int32} {r : (Int32 × Mem)}  (h : f_X7_start P I v1 v2 = some (Sum.inl r)) : MethR yX7_start cX7_start 4 (some .int) 9 [.inr (.inr (7, 0, 0)), .inl v1, .inl v2] I P O D n (some (.inl r.1)) r.2 P O D n := meth_R (Nat.le_refl _) (by decide) rfl (Nat.le_of_ble_eq_true rfl) rfl (fun X Q E => b_X7_start X Q  h E)
theorem mx_X7_start {I : Mem} {P : PMem} {O : Nat → Int64} {D : Bool} {n : Nat} {v1 : Int32} {v2 : Int32} {r : Nat}  (h : f_X7_start P I v1 v2 = some (Sum.inr r)) : MethX yX7_start cX7_start 4 (some .int) 9 [.inr (.inr (7, 0, 0)), .inl v1, .inl v2] I P O D n r I P O D (n + 1) := meth_X (Nat.le_succ _) (by decide) rfl (Nat.le_of_ble_eq_true rfl) rfl (fun X Q E => bx_X7_start X Q  h E)
def f_X7_inn_25  (P : PMem) (I : Mem) (v1 : Int32) (s0 : Int32) (s1 : Int32) : Option ((Int32 × Mem) ⊕ Nat) :=
  if s1 = s0 then ((f_X7_refuseAct I).bind fun y2 =>
  some (Sum.inl ((0 : Int32), y2.2))) else (bnd (upd4 I 0 0 0 1 ((I 0 0 0 1) ^^^ (jshl (1 : Int32) v1))) fun I1' =>
  (f_X7_keepAct I1' (1 : Int32) v1 (0 : Int32)).bind fun y1 =>
  some (Sum.inl ((1 : Int32), y1)))
theorem b_X7_inn_25 (X : CX) (Q : State → Prop) {I : Mem} {P : PMem} {O : Nat → Int64} {D : Bool} {n : Nat} {v1 : Int32} {s0 : Int32} {s1 : Int32} {r : (Int32 × Mem)}  (h : f_X7_inn_25 P I v1 s0 s1 = some (Sum.inl r)) (E : EndR X cX7_inn RX7 3 (some .boolean) 9 n (some (.inl r.1)) r.2 P O D Q) : Here X cX7_inn RX7 3 (some .boolean) 9 n 25 [some (.inr (.inr (7, 0, 0))), some (.inl v1), none] [.inl s0, .inl s1] I P O D n Q := by
  unfold f_X7_inn_25 at h
  refine h_icmp_ne (tgt := 35) dX7_inn_25 (by decide) (fun q1 => ?_) (fun q1 => ?_)
  · rw [if_neg q1] at h
    refine h_aload_n dX7_inn_35 rfl ?_
    refine g_X7_35  dX7_inn_36 ?_
    refine h_dup dX7_inn_39 (fun _ => rfl) ?_
    refine g_X7_113 (by decide) dX7_inn_40 ?_
    refine h_iconst (1 : Int32) dX7_inn_43 k_iconst_1 ?_
    refine h_iload_n dX7_inn_44 rfl ?_
    refine h_shl dX7_inn_45 ?_
    refine h_ixor dX7_inn_46 ?_
    obtain ⟨I1', e1, h⟩ := bnd_some h
    refine p_X7_113 (by decide) dX7_inn_47 ?_
    refine h_nmI e1 ?_
    refine h_aload_n dX7_inn_50 rfl ?_
    refine h_iconst (1 : Int32) dX7_inn_51 k_iconst_1 ?_
    refine h_iload_n dX7_inn_52 rfl ?_
    refine h_iconst (0 : Int32) dX7_inn_53 k_iconst_0 ?_
    obtain ⟨y1, hh1, h⟩ := obd_some h
    refine h_cVv [.inl (1 : Int32), .inl v1, .inl (0 : Int32)] (m_X7_keepAct  hh1) cw_X7_233 dX7_inn_54 rfl ok_7 (by decide) rfl (Or.inr rfl) rfl ?_
    refine h_iconst (1 : Int32) dX7_inn_57 k_iconst_1 ?_
    cases h
    exact h_zret dX7_inn_58 rfl rfl E
  · rw [if_pos q1] at h
    refine h_aload_n dX7_inn_28 rfl ?_
    obtain ⟨y2, hh2, h⟩ := obd_some h
    refine h_cVi [] (m_X7_refuseAct  hh2) cw_X7_230 dX7_inn_29 rfl ok_7 (by decide) rfl (Or.inr rfl) rfl ?_
    refine h_pop dX7_inn_32 (fun _ => rfl) ?_
    refine h_iconst (0 : Int32) dX7_inn_33 k_iconst_0 ?_
    cases h
    exact h_zret dX7_inn_34 rfl rfl E
theorem bx_X7_inn_25 (X : CX) (Q : State → Prop) {I : Mem} {P : PMem} {O : Nat → Int64} {D : Bool} {n : Nat} {v1 : Int32} {s0 : Int32} {s1 : Int32} {r : Nat}  (h : f_X7_inn_25 P I v1 s0 s1 = some (Sum.inr r)) (E : EndX X cX7_inn RX7 3 (some .boolean) 9 (n + 1) r I P O D Q) : Here X cX7_inn RX7 3 (some .boolean) 9 (n + 1) 25 [some (.inr (.inr (7, 0, 0))), some (.inl v1), none] [.inl s0, .inl s1] I P O D n Q := by
  unfold f_X7_inn_25 at h
  refine h_icmp_ne (tgt := 35) dX7_inn_25 (by decide) (fun q1 => ?_) (fun q1 => ?_)
  · rw [if_neg q1] at h
    refine h_aload_n dX7_inn_35 rfl ?_
    refine g_X7_35  dX7_inn_36 ?_
    refine h_dup dX7_inn_39 (fun _ => rfl) ?_
    refine g_X7_113 (by decide) dX7_inn_40 ?_
    refine h_iconst (1 : Int32) dX7_inn_43 k_iconst_1 ?_
    refine h_iload_n dX7_inn_44 rfl ?_
    refine h_shl dX7_inn_45 ?_
    refine h_ixor dX7_inn_46 ?_
    obtain ⟨I1', e1, h⟩ := bnd_some h
    refine p_X7_113 (by decide) dX7_inn_47 ?_
    refine h_nmI e1 ?_
    refine h_aload_n dX7_inn_50 rfl ?_
    refine h_iconst (1 : Int32) dX7_inn_51 k_iconst_1 ?_
    refine h_iload_n dX7_inn_52 rfl ?_
    refine h_iconst (0 : Int32) dX7_inn_53 k_iconst_0 ?_
    obtain ⟨y1, hh1, h⟩ := obd_some h
    refine h_cVv [.inl (1 : Int32), .inl v1, .inl (0 : Int32)] (m_X7_keepAct  hh1) cw_X7_233 dX7_inn_54 rfl ok_7 (by decide) rfl (Or.inr rfl) rfl ?_
    refine h_iconst (1 : Int32) dX7_inn_57 k_iconst_1 ?_
    cases h
  · rw [if_pos q1] at h
    refine h_aload_n dX7_inn_28 rfl ?_
    obtain ⟨y2, hh2, h⟩ := obd_some h
    refine h_cVi [] (m_X7_refuseAct  hh2) cw_X7_230 dX7_inn_29 rfl ok_7 (by decide) rfl (Or.inr rfl) rfl ?_
    refine h_pop dX7_inn_32 (fun _ => rfl) ?_
    refine h_iconst (0 : Int32) dX7_inn_33 k_iconst_0 ?_
    cases h
def f_X7_inn  (P : PMem) (I : Mem) (v1 : Int32) (v2 : Int32) : Option ((Int32 × Mem) ⊕ Nat) :=
  thb (f_X7_requireTown I P v1) fun y1 =>
  if v2 = 0 then (f_X7_inn_25 P I v1 (0 : Int32) ((jushr (I 0 0 0 1) v1) &&& (1 : Int32))) else (f_X7_inn_25 P I v1 (1 : Int32) ((jushr (I 0 0 0 1) v1) &&& (1 : Int32)))
theorem b_X7_inn (X : CX) (Q : State → Prop) {I : Mem} {P : PMem} {O : Nat → Int64} {D : Bool} {n : Nat} {v1 : Int32} {v2 : Int32} {r : (Int32 × Mem)}  (h : f_X7_inn P I v1 v2 = some (Sum.inl r)) (E : EndR X cX7_inn RX7 3 (some .boolean) 9 n (some (.inl r.1)) r.2 P O D Q) : Here X cX7_inn RX7 3 (some .boolean) 9 n 0 [some (.inr (.inr (7, 0, 0))), some (.inl v1), some (.inl v2)] [] I P O D n Q := by
  unfold f_X7_inn at h
  refine h_aload_n dX7_inn_0 rfl ?_
  refine h_iload_n dX7_inn_1 rfl ?_
  obtain ⟨y1, hh1, h⟩ := thb_R h
  refine h_cVv [.inl v1] (m_X7_requireTown  hh1) cw_X7_149 dX7_inn_2 rfl ok_7 (by decide) rfl (Or.inr rfl) rfl ?_
  refine h_aload_n dX7_inn_5 rfl ?_
  refine g_X7_35  dX7_inn_6 ?_
  refine g_X7_113 (by decide) dX7_inn_9 ?_
  refine h_iload_n dX7_inn_12 rfl ?_
  refine h_ushr dX7_inn_13 ?_
  refine h_iconst (1 : Int32) dX7_inn_14 k_iconst_1 ?_
  refine h_iand dX7_inn_15 ?_
  refine h_iload_n dX7_inn_16 rfl ?_
  refine h_if_eq (tgt := 24) dX7_inn_17 (by decide) (fun q1 => ?_) (fun q1 => ?_)
  · rw [if_pos q1] at h
    refine h_iconst (0 : Int32) dX7_inn_24 k_iconst_0 ?_
    exact h_mask [true, true, false] (b_X7_inn_25 X Q  h E)
  · rw [if_neg q1] at h
    refine h_iconst (1 : Int32) dX7_inn_20 k_iconst_1 ?_
    refine h_goto (tgt := 25) dX7_inn_21 (by decide) ?_
    exact h_mask [true, true, false] (b_X7_inn_25 X Q  h E)
theorem bx_X7_inn (X : CX) (Q : State → Prop) {I : Mem} {P : PMem} {O : Nat → Int64} {D : Bool} {n : Nat} {v1 : Int32} {v2 : Int32} {r : Nat}  (h : f_X7_inn P I v1 v2 = some (Sum.inr r)) (E : EndX X cX7_inn RX7 3 (some .boolean) 9 (n + 1) r I P O D Q) : Here X cX7_inn RX7 3 (some .boolean) 9 (n + 1) 0 [some (.inr (.inr (7, 0, 0))), some (.inl v1), some (.inl v2)] [] I P O D n Q := by
  unfold f_X7_inn at h
  refine h_aload_n dX7_inn_0 rfl ?_
  refine h_iload_n dX7_inn_1 rfl ?_
  rcases thb_X h with hh1 | ⟨y1, hh1, h⟩
  · exact h_callVX (as := [.inl v1]) (mx_X7_requireTown  hh1) cw_X7_149 dX7_inn_2 rfl ok_7 (by decide) rfl rfl E
  refine h_cVv [.inl v1] (m_X7_requireTown  hh1) cw_X7_149 dX7_inn_2 rfl ok_7 (by decide) rfl (Or.inr rfl) rfl ?_
  refine h_aload_n dX7_inn_5 rfl ?_
  refine g_X7_35  dX7_inn_6 ?_
  refine g_X7_113 (by decide) dX7_inn_9 ?_
  refine h_iload_n dX7_inn_12 rfl ?_
  refine h_ushr dX7_inn_13 ?_
  refine h_iconst (1 : Int32) dX7_inn_14 k_iconst_1 ?_
  refine h_iand dX7_inn_15 ?_
  refine h_iload_n dX7_inn_16 rfl ?_
  refine h_if_eq (tgt := 24) dX7_inn_17 (by decide) (fun q1 => ?_) (fun q1 => ?_)
  · rw [if_pos q1] at h
    refine h_iconst (0 : Int32) dX7_inn_24 k_iconst_0 ?_
    exact h_mask [true, true, false] (bx_X7_inn_25 X Q  h E)
  · rw [if_neg q1] at h
    refine h_iconst (1 : Int32) dX7_inn_20 k_iconst_1 ?_
    refine h_goto (tgt := 25) dX7_inn_21 (by decide) ?_
    exact h_mask [true, true, false] (bx_X7_inn_25 X Q  h E)
theorem m_X7_inn {I : Mem} {P : PMem} {O : Nat → Int64} {D : Bool} {n : Nat} {v1 : Int32} {v2 : Int32} {r : (Int32 × Mem)}  (h : f_X7_inn P I v1 v2 = some (Sum.inl r)) : MethR yX7_inn cX7_inn 3 (some .boolean) 9 [.inr (.inr (7, 0, 0)), .inl v1, .inl v2] I P O D n (some (.inl r.1)) r.2 P O D n := meth_R (Nat.le_refl _) (by decide) rfl (Nat.le_of_ble_eq_true rfl) rfl (fun X Q E => b_X7_inn X Q  h E)
theorem mx_X7_inn {I : Mem} {P : PMem} {O : Nat → Int64} {D : Bool} {n : Nat} {v1 : Int32} {v2 : Int32} {r : Nat}  (h : f_X7_inn P I v1 v2 = some (Sum.inr r)) : MethX yX7_inn cX7_inn 3 (some .boolean) 9 [.inr (.inr (7, 0, 0)), .inl v1, .inl v2] I P O D n r I P O D (n + 1) := meth_X (Nat.le_succ _) (by decide) rfl (Nat.le_of_ble_eq_true rfl) rfl (fun X Q E => bx_X7_inn X Q  h E)
