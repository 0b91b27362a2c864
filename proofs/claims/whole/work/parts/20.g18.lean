theorem dX8_stop_0 : decode cX8_stop 0 = .ok (.aload_n 0, 1) := by decide +kernel
theorem dX8_stop_1 : decode cX8_stop 1 = .ok (.iconst 0, 1) := by decide +kernel
theorem dX8_stop_2 : decode cX8_stop 2 = .ok (.putfield 150, 3) := by decide +kernel
theorem dX8_stop_5 : decode cX8_stop 5 = .ok (.aload_n 0, 1) := by decide +kernel
theorem dX8_stop_6 : decode cX8_stop 6 = .ok (.iload_n 1, 1) := by decide +kernel
theorem dX8_stop_7 : decode cX8_stop 7 = .ok (.invokevirtual 419, 3) := by decide +kernel
theorem dX8_stop_10 : decode cX8_stop 10 = .ok (.ifCond .eq 30, 3) := by decide +kernel
theorem dX8_stop_13 : decode cX8_stop 13 = .ok (.iload_n 2, 1) := by decide +kernel
theorem dX8_stop_14 : decode cX8_stop 14 = .ok (.i2l, 1) := by decide +kernel
theorem dX8_stop_15 : decode cX8_stop 15 = .ok (.lconst 0, 1) := by decide +kernel
theorem dX8_stop_16 : decode cX8_stop 16 = .ok (.aload_n 0, 1) := by decide +kernel
theorem dX8_stop_17 : decode cX8_stop 17 = .ok (.getfield 49, 3) := by decide +kernel
theorem dX8_stop_20 : decode cX8_stop 20 = .ok (.iload_n 1, 1) := by decide +kernel
theorem dX8_stop_21 : decode cX8_stop 21 = .ok (.iaload, 1) := by decide +kernel
theorem dX8_stop_22 : decode cX8_stop 22 = .ok (.iconst 1, 1) := by decide +kernel
theorem dX8_stop_23 : decode cX8_stop 23 = .ok (.isub, 1) := by decide +kernel
theorem dX8_stop_24 : decode cX8_stop 24 = .ok (.i2l, 1) := by decide +kernel
theorem dX8_stop_25 : decode cX8_stop 25 = .ok (.invokestatic 153, 3) := by decide +kernel
theorem dX8_stop_28 : decode cX8_stop 28 = .ok (.ifCond .eq 12, 3) := by decide +kernel
theorem dX8_stop_31 : decode cX8_stop 31 = .ok (.iload_n 3, 1) := by decide +kernel
theorem dX8_stop_32 : decode cX8_stop 32 = .ok (.ifCond .lt 8, 3) := by decide +kernel
theorem dX8_stop_35 : decode cX8_stop 35 = .ok (.iload_n 3, 1) := by decide +kernel
theorem dX8_stop_36 : decode cX8_stop 36 = .ok (.iconst 1, 1) := by decide +kernel
theorem dX8_stop_37 : decode cX8_stop 37 = .ok (.if_icmp .le 9, 3) := by decide +kernel
theorem dX8_stop_40 : decode cX8_stop 40 = .ok (.aload_n 0, 1) := by decide +kernel
theorem dX8_stop_41 : decode cX8_stop 41 = .ok (.iconst 1, 1) := by decide +kernel
theorem dX8_stop_42 : decode cX8_stop 42 = .ok (.invokevirtual 298, 3) := by decide +kernel
theorem dX8_stop_45 : decode cX8_stop 45 = .ok (.ireturn, 1) := by decide +kernel
theorem dX8_stop_46 : decode cX8_stop 46 = .ok (.aload_n 0, 1) := by decide +kernel
theorem dX8_stop_47 : decode cX8_stop 47 = .ok (.invokevirtual 404, 3) := by decide +kernel
theorem dX8_stop_50 : decode cX8_stop 50 = .ok (.aload_n 0, 1) := by decide +kernel
theorem dX8_stop_51 : decode cX8_stop 51 = .ok (.invokevirtual 388, 3) := by decide +kernel
theorem dX8_stop_54 : decode cX8_stop 54 = .ok (.iload_n 3, 1) := by decide +kernel
theorem dX8_stop_55 : decode cX8_stop 55 = .ok (.ifCond .ne 17, 3) := by decide +kernel
theorem dX8_stop_58 : decode cX8_stop 58 = .ok (.aload_n 0, 1) := by decide +kernel
theorem dX8_stop_59 : decode cX8_stop 59 = .ok (.getfield 91, 3) := by decide +kernel
theorem dX8_stop_62 : decode cX8_stop 62 = .ok (.bipush 7, 2) := by decide +kernel
theorem dX8_stop_64 : decode cX8_stop 64 = .ok (.iload_n 1, 1) := by decide +kernel
theorem dX8_stop_65 : decode cX8_stop 65 = .ok (.imul, 1) := by decide +kernel
theorem dX8_stop_66 : decode cX8_stop 66 = .ok (.iload_n 2, 1) := by decide +kernel
theorem dX8_stop_67 : decode cX8_stop 67 = .ok (.iadd, 1) := by decide +kernel
theorem dX8_stop_68 : decode cX8_stop 68 = .ok (.iaload, 1) := by decide +kernel
theorem dX8_stop_69 : decode cX8_stop 69 = .ok (.goto 14, 3) := by decide +kernel
theorem dX8_stop_72 : decode cX8_stop 72 = .ok (.aload_n 0, 1) := by decide +kernel
theorem dX8_stop_73 : decode cX8_stop 73 = .ok (.getfield 94, 3) := by decide +kernel
theorem dX8_stop_76 : decode cX8_stop 76 = .ok (.bipush 7, 2) := by decide +kernel
theorem dX8_stop_78 : decode cX8_stop 78 = .ok (.iload_n 1, 1) := by decide +kernel
theorem dX8_stop_79 : decode cX8_stop 79 = .ok (.imul, 1) := by decide +kernel
theorem dX8_stop_80 : decode cX8_stop 80 = .ok (.iload_n 2, 1) := by decide +kernel
theorem dX8_stop_81 : decode cX8_stop 81 = .ok (.iadd, 1) := by decide +kernel
theorem dX8_stop_82 : decode cX8_stop 82 = .ok (.iaload, 1) := by decide +kernel
theorem dX8_stop_83 : decode cX8_stop 83 = .ok (.ireturn, 1) := by decide +kernel
theorem dX8_where_0 : decode cX8_where 0 = .ok (.aload_n 0, 1) := by decide +kernel
theorem dX8_where_1 : decode cX8_where 1 = .ok (.iconst 0, 1) := by decide +kernel
theorem dX8_where_2 : decode cX8_where 2 = .ok (.putfield 150, 3) := by decide +kernel
theorem dX8_where_5 : decode cX8_where 5 = .ok (.aload_n 0, 1) := by decide +kernel
theorem dX8_where_6 : decode cX8_where 6 = .ok (.iload_n 1, 1) := by decide +kernel
theorem dX8_where_7 : decode cX8_where 7 = .ok (.invokevirtual 419, 3) := by decide +kernel
theorem dX8_where_10 : decode cX8_where 10 = .ok (.ifCond .ne 9, 3) := by decide +kernel
theorem dX8_where_13 : decode cX8_where 13 = .ok (.aload_n 0, 1) := by decide +kernel
theorem dX8_where_14 : decode cX8_where 14 = .ok (.iconst 1, 1) := by decide +kernel
theorem dX8_where_15 : decode cX8_where 15 = .ok (.invokevirtual 298, 3) := by decide +kernel
theorem dX8_where_18 : decode cX8_where 18 = .ok (.ireturn, 1) := by decide +kernel
theorem dX8_where_19 : decode cX8_where 19 = .ok (.aload_n 0, 1) := by decide +kernel
theorem dX8_where_20 : decode cX8_where 20 = .ok (.invokevirtual 404, 3) := by decide +kernel
theorem dX8_where_23 : decode cX8_where 23 = .ok (.aload_n 0, 1) := by decide +kernel
theorem dX8_where_24 : decode cX8_where 24 = .ok (.invokevirtual 388, 3) := by decide +kernel
theorem dX8_where_27 : decode cX8_where 27 = .ok (.aload_n 0, 1) := by decide +kernel
theorem dX8_where_28 : decode cX8_where 28 = .ok (.iload_n 1, 1) := by decide +kernel
theorem dX8_where_29 : decode cX8_where 29 = .ok (.iload_n 2, 1) := by decide +kernel
theorem dX8_where_30 : decode cX8_where 30 = .ok (.invokevirtual 346, 3) := by decide +kernel
theorem dX8_where_33 : decode cX8_where 33 = .ok (.ireturn, 1) := by decide +kernel
theorem dX8_proof_0 : decode cX8_proof 0 = .ok (.aload_n 0, 1) := by decide +kernel
theorem dX8_proof_1 : decode cX8_proof 1 = .ok (.iconst 0, 1) := by decide +kernel
theorem dX8_proof_2 : decode cX8_proof 2 = .ok (.putfield 150, 3) := by decide +kernel
theorem dX8_proof_5 : decode cX8_proof 5 = .ok (.aload_n 0, 1) := by decide +kernel
theorem dX8_proof_6 : decode cX8_proof 6 = .ok (.iload_n 1, 1) := by decide +kernel
theorem dX8_proof_7 : decode cX8_proof 7 = .ok (.invokevirtual 424, 3) := by decide +kernel
theorem dX8_proof_10 : decode cX8_proof 10 = .ok (.ifCond .eq 25, 3) := by decide +kernel
theorem dX8_proof_13 : decode cX8_proof 13 = .ok (.aload_n 0, 1) := by decide +kernel
theorem dX8_proof_14 : decode cX8_proof 14 = .ok (.iload_n 2, 1) := by decide +kernel
theorem dX8_proof_15 : decode cX8_proof 15 = .ok (.invokevirtual 413, 3) := by decide +kernel
theorem dX8_proof_18 : decode cX8_proof 18 = .ok (.ifCond .eq 17, 3) := by decide +kernel
theorem dX8_proof_21 : decode cX8_proof 21 = .ok (.aload_n 0, 1) := by decide +kernel
theorem dX8_proof_22 : decode cX8_proof 22 = .ok (.getfield 55, 3) := by decide +kernel
theorem dX8_proof_25 : decode cX8_proof 25 = .ok (.bipush 9, 2) := by decide +kernel
theorem dX8_proof_27 : decode cX8_proof 27 = .ok (.iload_n 1, 1) := by decide +kernel
theorem dX8_proof_28 : decode cX8_proof 28 = .ok (.imul, 1) := by decide +kernel
theorem dX8_proof_29 : decode cX8_proof 29 = .ok (.iload_n 2, 1) := by decide +kernel
theorem dX8_proof_30 : decode cX8_proof 30 = .ok (.iadd, 1) := by decide +kernel
theorem dX8_proof_31 : decode cX8_proof 31 = .ok (.iaload, 1) := by decide +kernel
theorem dX8_proof_32 : decode cX8_proof 32 = .ok (.goto 8, 3) := by decide +kernel
theorem dX8_proof_35 : decode cX8_proof 35 = .ok (.aload_n 0, 1) := by decide +kernel
theorem dX8_proof_36 : decode cX8_proof 36 = .ok (.iconst 1, 1) := by decide +kernel
theorem dX8_proof_37 : decode cX8_proof 37 = .ok (.invokevirtual 298, 3) := by decide +kernel
theorem dX8_proof_40 : decode cX8_proof 40 = .ok (.ireturn, 1) := by decide +kernel
theorem dX8_said_0 : decode cX8_said 0 = .ok (.aload_n 0, 1) := by decide +kernel
theorem dX8_said_1 : decode cX8_said 1 = .ok (.iconst 0, 1) := by decide +kernel
theorem dX8_said_2 : decode cX8_said 2 = .ok (.putfield 150, 3) := by decide +kernel
theorem dX8_said_5 : decode cX8_said 5 = .ok (.aload_n 0, 1) := by decide +kernel
theorem dX8_said_6 : decode cX8_said 6 = .ok (.iload_n 1, 1) := by decide +kernel
theorem dX8_said_7 : decode cX8_said 7 = .ok (.invokevirtual 424, 3) := by decide +kernel
theorem dX8_said_10 : decode cX8_said 10 = .ok (.ifCond .eq 23, 3) := by decide +kernel
theorem dX8_said_13 : decode cX8_said 13 = .ok (.aload_n 0, 1) := by decide +kernel
theorem dX8_said_14 : decode cX8_said 14 = .ok (.iload_n 2, 1) := by decide +kernel
theorem dX8_said_15 : decode cX8_said 15 = .ok (.invokevirtual 419, 3) := by decide +kernel
theorem dX8_said_18 : decode cX8_said 18 = .ok (.ifCond .eq 15, 3) := by decide +kernel
theorem dX8_said_21 : decode cX8_said 21 = .ok (.iload_n 3, 1) := by decide +kernel
theorem dX8_said_22 : decode cX8_said 22 = .ok (.i2l, 1) := by decide +kernel
theorem dX8_said_23 : decode cX8_said 23 = .ok (.lconst 0, 1) := by decide +kernel
theorem dX8_said_24 : decode cX8_said 24 = .ok (.ldc2_w 427, 3) := by decide +kernel
theorem dX8_said_27 : decode cX8_said 27 = .ok (.invokestatic 153, 3) := by decide +kernel
theorem dX8_said_30 : decode cX8_said 30 = .ok (.ifCond .ne 9, 3) := by decide +kernel
theorem dX8_said_33 : decode cX8_said 33 = .ok (.aload_n 0, 1) := by decide +kernel
theorem dX8_said_34 : decode cX8_said 34 = .ok (.iconst 1, 1) := by decide +kernel
theorem dX8_said_35 : decode cX8_said 35 = .ok (.invokevirtual 298, 3) := by decide +kernel
theorem dX8_said_38 : decode cX8_said 38 = .ok (.ireturn, 1) := by decide +kernel
theorem dX8_said_39 : decode cX8_said 39 = .ok (.aload_n 0, 1) := by decide +kernel
theorem dX8_said_40 : decode cX8_said 40 = .ok (.invokevirtual 410, 3) := by decide +kernel
theorem dX8_said_43 : decode cX8_said 43 = .ok (.pop, 1) := by decide +kernel
theorem dX8_said_44 : decode cX8_said 44 = .ok (.iconst 5, 1) := by decide +kernel
theorem dX8_said_45 : decode cX8_said 45 = .ok (.iload_n 1, 1) := by decide +kernel
theorem dX8_said_46 : decode cX8_said 46 = .ok (.imul, 1) := by decide +kernel
theorem dX8_said_47 : decode cX8_said 47 = .ok (.iload_n 2, 1) := by decide +kernel
theorem dX8_said_48 : decode cX8_said 48 = .ok (.iadd, 1) := by decide +kernel
theorem dX8_said_49 : decode cX8_said 49 = .ok (.istore 4, 2) := by decide +kernel
theorem dX8_said_51 : decode cX8_said 51 = .ok (.iload_n 3, 1) := by decide +kernel
theorem dX8_said_52 : decode cX8_said 52 = .ok (.iconst 3, 1) := by decide +kernel
theorem dX8_said_53 : decode cX8_said 53 = .ok (.if_icmp .ne 11, 3) := by decide +kernel
theorem dX8_said_56 : decode cX8_said 56 = .ok (.aload_n 0, 1) := by decide +kernel
theorem dX8_said_57 : decode cX8_said 57 = .ok (.getfield 114, 3) := by decide +kernel
theorem dX8_said_60 : decode cX8_said 60 = .ok (.iload 4, 2) := by decide +kernel
theorem dX8_said_62 : decode cX8_said 62 = .ok (.iaload, 1) := by decide +kernel
theorem dX8_said_63 : decode cX8_said 63 = .ok (.ireturn, 1) := by decide +kernel
theorem dX8_said_64 : decode cX8_said 64 = .ok (.aload_n 0, 1) := by decide +kernel
theorem dX8_said_65 : decode cX8_said 65 = .ok (.getfield 106, 3) := by decide +kernel
theorem dX8_said_68 : decode cX8_said 68 = .ok (.iload 4, 2) := by decide +kernel
theorem dX8_said_70 : decode cX8_said 70 = .ok (.iaload, 1) := by decide +kernel
theorem dX8_said_71 : decode cX8_said 71 = .ok (.iconst (-1), 1) := by decide +kernel
theorem dX8_said_72 : decode cX8_said 72 = .ok (.if_icmp .ne 7, 3) := by decide +kernel
theorem dX8_said_75 : decode cX8_said 75 = .ok (.iconst (-1), 1) := by decide +kernel
theorem dX8_said_76 : decode cX8_said 76 = .ok (.goto 39, 3) := by decide +kernel
theorem dX8_said_79 : decode cX8_said 79 = .ok (.iload_n 3, 1) := by decide +kernel
theorem dX8_said_80 : decode cX8_said 80 = .ok (.ifCond .ne 13, 3) := by decide +kernel
theorem dX8_said_83 : decode cX8_said 83 = .ok (.aload_n 0, 1) := by decide +kernel
theorem dX8_said_84 : decode cX8_said 84 = .ok (.getfield 106, 3) := by decide +kernel
theorem dX8_said_87 : decode cX8_said 87 = .ok (.iload 4, 2) := by decide +kernel
theorem dX8_said_89 : decode cX8_said 89 = .ok (.iaload, 1) := by decide +kernel
theorem dX8_said_90 : decode cX8_said 90 = .ok (.goto 25, 3) := by decide +kernel
theorem dX8_said_93 : decode cX8_said 93 = .ok (.iload_n 3, 1) := by decide +kernel
theorem dX8_said_94 : decode cX8_said 94 = .ok (.iconst 1, 1) := by decide +kernel
theorem dX8_said_95 : decode cX8_said 95 = .ok (.if_icmp .ne 13, 3) := by decide +kernel
theorem dX8_said_98 : decode cX8_said 98 = .ok (.aload_n 0, 1) := by decide +kernel
theorem dX8_said_99 : decode cX8_said 99 = .ok (.getfield 108, 3) := by decide +kernel
theorem dX8_said_102 : decode cX8_said 102 = .ok (.iload 4, 2) := by decide +kernel
theorem dX8_said_104 : decode cX8_said 104 = .ok (.iaload, 1) := by decide +kernel
theorem dX8_said_105 : decode cX8_said 105 = .ok (.goto 10, 3) := by decide +kernel
theorem dX8_said_108 : decode cX8_said 108 = .ok (.aload_n 0, 1) := by decide +kernel
theorem dX8_said_109 : decode cX8_said 109 = .ok (.getfield 111, 3) := by decide +kernel
theorem dX8_said_112 : decode cX8_said 112 = .ok (.iload 4, 2) := by decide +kernel
theorem dX8_said_114 : decode cX8_said 114 = .ok (.iaload, 1) := by decide +kernel
theorem dX8_said_115 : decode cX8_said 115 = .ok (.ireturn, 1) := by decide +kernel
theorem dX8_met_0 : decode cX8_met 0 = .ok (.aload_n 0, 1) := by decide +kernel
theorem dX8_met_1 : decode cX8_met 1 = .ok (.iconst 0, 1) := by decide +kernel
theorem dX8_met_2 : decode cX8_met 2 = .ok (.putfield 150, 3) := by decide +kernel
theorem dX8_met_5 : decode cX8_met 5 = .ok (.aload_n 0, 1) := by decide +kernel
theorem dX8_met_6 : decode cX8_met 6 = .ok (.iload_n 1, 1) := by decide +kernel
theorem dX8_met_7 : decode cX8_met 7 = .ok (.invokevirtual 419, 3) := by decide +kernel
theorem dX8_met_10 : decode cX8_met 10 = .ok (.ifCond .eq 11, 3) := by decide +kernel
theorem dX8_met_13 : decode cX8_met 13 = .ok (.aload_n 0, 1) := by decide +kernel
theorem dX8_met_14 : decode cX8_met 14 = .ok (.iload_n 2, 1) := by decide +kernel
theorem dX8_met_15 : decode cX8_met 15 = .ok (.invokevirtual 419, 3) := by decide +kernel
theorem dX8_met_18 : decode cX8_met 18 = .ok (.ifCond .ne 9, 3) := by decide +kernel
theorem dX8_met_21 : decode cX8_met 21 = .ok (.aload_n 0, 1) := by decide +kernel
theorem dX8_met_22 : decode cX8_met 22 = .ok (.iconst 1, 1) := by decide +kernel
theorem dX8_met_23 : decode cX8_met 23 = .ok (.invokevirtual 298, 3) := by decide +kernel
theorem dX8_met_26 : decode cX8_met 26 = .ok (.ireturn, 1) := by decide +kernel
theorem dX8_met_27 : decode cX8_met 27 = .ok (.iload_n 1, 1) := by decide +kernel
theorem dX8_met_28 : decode cX8_met 28 = .ok (.iload_n 2, 1) := by decide +kernel
theorem dX8_met_29 : decode cX8_met 29 = .ok (.if_icmp .ne 9, 3) := by decide +kernel
theorem dX8_met_32 : decode cX8_met 32 = .ok (.aload_n 0, 1) := by decide +kernel
theorem dX8_met_33 : decode cX8_met 33 = .ok (.iconst 2, 1) := by decide +kernel
theorem dX8_met_34 : decode cX8_met 34 = .ok (.invokevirtual 298, 3) := by decide +kernel
theorem dX8_met_37 : decode cX8_met 37 = .ok (.ireturn, 1) := by decide +kernel
theorem dX8_met_38 : decode cX8_met 38 = .ok (.aload_n 0, 1) := by decide +kernel
theorem dX8_met_39 : decode cX8_met 39 = .ok (.invokevirtual 410, 3) := by decide +kernel
theorem dX8_met_42 : decode cX8_met 42 = .ok (.pop, 1) := by decide +kernel
theorem dX8_met_43 : decode cX8_met 43 = .ok (.aload_n 0, 1) := by decide +kernel
theorem dX8_met_44 : decode cX8_met 44 = .ok (.getfield 97, 3) := by decide +kernel
theorem dX8_met_47 : decode cX8_met 47 = .ok (.iconst 5, 1) := by decide +kernel
theorem dX8_met_48 : decode cX8_met 48 = .ok (.iload_n 1, 1) := by decide +kernel
theorem dX8_met_49 : decode cX8_met 49 = .ok (.imul, 1) := by decide +kernel
theorem dX8_met_50 : decode cX8_met 50 = .ok (.iload_n 2, 1) := by decide +kernel
theorem dX8_met_51 : decode cX8_met 51 = .ok (.iadd, 1) := by decide +kernel
theorem dX8_met_52 : decode cX8_met 52 = .ok (.iaload, 1) := by decide +kernel
theorem dX8_met_53 : decode cX8_met 53 = .ok (.invokestatic 416, 3) := by decide +kernel
theorem dX8_met_56 : decode cX8_met 56 = .ok (.ireturn, 1) := by decide +kernel
theorem dX8_guilty_0 : decode cX8_guilty 0 = .ok (.aload_n 0, 1) := by decide +kernel
theorem dX8_guilty_1 : decode cX8_guilty 1 = .ok (.iconst 0, 1) := by decide +kernel
theorem dX8_guilty_2 : decode cX8_guilty 2 = .ok (.putfield 150, 3) := by decide +kernel
theorem dX8_guilty_5 : decode cX8_guilty 5 = .ok (.aload_n 0, 1) := by decide +kernel
theorem dX8_guilty_6 : decode cX8_guilty 6 = .ok (.iload_n 1, 1) := by decide +kernel
theorem dX8_guilty_7 : decode cX8_guilty 7 = .ok (.invokevirtual 424, 3) := by decide +kernel
theorem dX8_guilty_10 : decode cX8_guilty 10 = .ok (.ifCond .eq 12, 3) := by decide +kernel
theorem dX8_guilty_13 : decode cX8_guilty 13 = .ok (.iload_n 2, 1) := by decide +kernel
theorem dX8_guilty_14 : decode cX8_guilty 14 = .ok (.ifCond .lt 8, 3) := by decide +kernel
theorem dX8_guilty_17 : decode cX8_guilty 17 = .ok (.iload_n 2, 1) := by decide +kernel
theorem dX8_guilty_18 : decode cX8_guilty 18 = .ok (.iconst 1, 1) := by decide +kernel
theorem dX8_guilty_19 : decode cX8_guilty 19 = .ok (.if_icmp .le 9, 3) := by decide +kernel
theorem dX8_guilty_22 : decode cX8_guilty 22 = .ok (.aload_n 0, 1) := by decide +kernel
theorem dX8_guilty_23 : decode cX8_guilty 23 = .ok (.iconst 1, 1) := by decide +kernel
theorem dX8_guilty_24 : decode cX8_guilty 24 = .ok (.invokevirtual 298, 3) := by decide +kernel
theorem dX8_guilty_27 : decode cX8_guilty 27 = .ok (.ireturn, 1) := by decide +kernel
theorem dX8_guilty_28 : decode cX8_guilty 28 = .ok (.aload_n 0, 1) := by decide +kernel
theorem dX8_guilty_29 : decode cX8_guilty 29 = .ok (.invokevirtual 410, 3) := by decide +kernel
theorem dX8_guilty_32 : decode cX8_guilty 32 = .ok (.pop, 1) := by decide +kernel
theorem dX8_guilty_33 : decode cX8_guilty 33 = .ok (.iload_n 2, 1) := by decide +kernel
theorem dX8_guilty_34 : decode cX8_guilty 34 = .ok (.ifCond .ne 15, 3) := by decide +kernel
theorem dX8_guilty_37 : decode cX8_guilty 37 = .ok (.aload_n 0, 1) := by decide +kernel
theorem dX8_guilty_38 : decode cX8_guilty 38 = .ok (.getfield 117, 3) := by decide +kernel
theorem dX8_guilty_41 : decode cX8_guilty 41 = .ok (.iload_n 1, 1) := by decide +kernel
theorem dX8_guilty_42 : decode cX8_guilty 42 = .ok (.iaload, 1) := by decide +kernel
theorem dX8_guilty_43 : decode cX8_guilty 43 = .ok (.invokestatic 416, 3) := by decide +kernel
theorem dX8_guilty_46 : decode cX8_guilty 46 = .ok (.goto 9, 3) := by decide +kernel
theorem dX8_guilty_49 : decode cX8_guilty 49 = .ok (.aload_n 0, 1) := by decide +kernel
theorem dX8_guilty_50 : decode cX8_guilty 50 = .ok (.getfield 120, 3) := by decide +kernel
theorem dX8_guilty_53 : decode cX8_guilty 53 = .ok (.iload_n 1, 1) := by decide +kernel
theorem dX8_guilty_54 : decode cX8_guilty 54 = .ok (.iaload, 1) := by decide +kernel
theorem dX8_guilty_55 : decode cX8_guilty 55 = .ok (.ireturn, 1) := by decide +kernel
theorem dX8_news_0 : decode cX8_news 0 = .ok (.aload_n 0, 1) := by decide +kernel
theorem dX8_news_1 : decode cX8_news 1 = .ok (.iconst 0, 1) := by decide +kernel
theorem dX8_news_2 : decode cX8_news 2 = .ok (.putfield 150, 3) := by decide +kernel
theorem dX8_news_5 : decode cX8_news 5 = .ok (.aload_n 0, 1) := by decide +kernel
theorem dX8_news_6 : decode cX8_news 6 = .ok (.iload_n 1, 1) := by decide +kernel
theorem dX8_news_7 : decode cX8_news 7 = .ok (.invokevirtual 424, 3) := by decide +kernel
theorem dX8_news_10 : decode cX8_news 10 = .ok (.ifCond .eq 11, 3) := by decide +kernel
theorem dX8_news_13 : decode cX8_news 13 = .ok (.aload_n 0, 1) := by decide +kernel
theorem dX8_news_14 : decode cX8_news 14 = .ok (.iload_n 2, 1) := by decide +kernel
theorem dX8_news_15 : decode cX8_news 15 = .ok (.invokevirtual 413, 3) := by decide +kernel
theorem dX8_news_18 : decode cX8_news 18 = .ok (.ifCond .ne 9, 3) := by decide +kernel
theorem dX8_news_21 : decode cX8_news 21 = .ok (.aload_n 0, 1) := by decide +kernel
theorem dX8_news_22 : decode cX8_news 22 = .ok (.iconst 1, 1) := by decide +kernel
theorem dX8_news_23 : decode cX8_news 23 = .ok (.invokevirtual 298, 3) := by decide +kernel
theorem dX8_news_26 : decode cX8_news 26 = .ok (.ireturn, 1) := by decide +kernel
theorem dX8_news_27 : decode cX8_news 27 = .ok (.aload_n 0, 1) := by decide +kernel
theorem dX8_news_28 : decode cX8_news 28 = .ok (.invokevirtual 410, 3) := by decide +kernel
theorem dX8_news_31 : decode cX8_news 31 = .ok (.pop, 1) := by decide +kernel
theorem dX8_news_32 : decode cX8_news 32 = .ok (.aload_n 0, 1) := by decide +kernel
theorem dX8_news_33 : decode cX8_news 33 = .ok (.iload_n 1, 1) := by decide +kernel
theorem dX8_news_34 : decode cX8_news 34 = .ok (.iload_n 2, 1) := by decide +kernel
theorem dX8_news_35 : decode cX8_news 35 = .ok (.invokevirtual 369, 3) := by decide +kernel
theorem dX8_news_38 : decode cX8_news 38 = .ok (.istore_n 3, 1) := by decide +kernel
theorem dX8_news_39 : decode cX8_news 39 = .ok (.iconst 0, 1) := by decide +kernel
theorem dX8_news_40 : decode cX8_news 40 = .ok (.istore 4, 2) := by decide +kernel
theorem dX8_news_42 : decode cX8_news 42 = .ok (.iload 4, 2) := by decide +kernel
theorem dX8_news_44 : decode cX8_news 44 = .ok (.aload_n 0, 1) := by decide +kernel
theorem dX8_news_45 : decode cX8_news 45 = .ok (.getfield 34, 3) := by decide +kernel
theorem dX8_news_48 : decode cX8_news 48 = .ok (.iconst 4, 1) := by decide +kernel
theorem dX8_news_49 : decode cX8_news 49 = .ok (.iaload, 1) := by decide +kernel
theorem dX8_news_50 : decode cX8_news 50 = .ok (.if_icmp .ge 22, 3) := by decide +kernel
theorem dX8_news_53 : decode cX8_news 53 = .ok (.iload_n 3, 1) := by decide +kernel
theorem dX8_news_54 : decode cX8_news 54 = .ok (.aload_n 0, 1) := by decide +kernel
theorem dX8_news_55 : decode cX8_news 55 = .ok (.iload_n 1, 1) := by decide +kernel
theorem dX8_news_56 : decode cX8_news 56 = .ok (.iload 4, 2) := by decide +kernel
theorem dX8_news_58 : decode cX8_news 58 = .ok (.iload_n 2, 1) := by decide +kernel
theorem dX8_news_59 : decode cX8_news 59 = .ok (.invokevirtual 372, 3) := by decide +kernel
theorem dX8_news_62 : decode cX8_news 62 = .ok (.invokestatic 187, 3) := by decide +kernel
theorem dX8_news_65 : decode cX8_news 65 = .ok (.istore_n 3, 1) := by decide +kernel
theorem dX8_news_66 : decode cX8_news 66 = .ok (.iinc 4 1, 3) := by decide +kernel
theorem dX8_news_69 : decode cX8_news 69 = .ok (.goto (-27), 3) := by decide +kernel
theorem dX8_news_72 : decode cX8_news 72 = .ok (.iload_n 3, 1) := by decide +kernel
theorem dX8_news_73 : decode cX8_news 73 = .ok (.invokestatic 416, 3) := by decide +kernel
theorem dX8_news_76 : decode cX8_news 76 = .ok (.ireturn, 1) := by decide +kernel
theorem dX8_refuse_0 : decode cX8_refuse 0 = .ok (.aload_n 0, 1) := by decide +kernel
theorem dX8_refuse_1 : decode cX8_refuse 1 = .ok (.getfield 60, 3) := by decide +kernel
theorem dX8_refuse_4 : decode cX8_refuse 4 = .ok (.iload_n 1, 1) := by decide +kernel
theorem dX8_refuse_5 : decode cX8_refuse 5 = .ok (.dup2, 1) := by decide +kernel
theorem dX8_refuse_6 : decode cX8_refuse 6 = .ok (.iaload, 1) := by decide +kernel
theorem dX8_refuse_7 : decode cX8_refuse 7 = .ok (.iconst 1, 1) := by decide +kernel
theorem dX8_refuse_8 : decode cX8_refuse 8 = .ok (.iadd, 1) := by decide +kernel
theorem dX8_refuse_9 : decode cX8_refuse 9 = .ok (.iastore, 1) := by decide +kernel
theorem dX8_refuse_10 : decode cX8_refuse 10 = .ok (.iconst (-1), 1) := by decide +kernel
theorem dX8_refuse_11 : decode cX8_refuse 11 = .ok (.ireturn, 1) := by decide +kernel
theorem dX8_keep_0 : decode cX8_keep 0 = .ok (.aload_n 0, 1) := by decide +kernel
theorem dX8_keep_1 : decode cX8_keep 1 = .ok (.getfield 323, 3) := by decide +kernel
theorem dX8_keep_4 : decode cX8_keep 4 = .ok (.bipush 40, 2) := by decide +kernel
theorem dX8_keep_6 : decode cX8_keep 6 = .ok (.if_icmp .ne 46, 3) := by decide +kernel
theorem dX8_keep_9 : decode cX8_keep 9 = .ok (.bipush 45, 2) := by decide +kernel
theorem dX8_keep_11 : decode cX8_keep 11 = .ok (.istore_n 1, 1) := by decide +kernel
theorem dX8_keep_12 : decode cX8_keep 12 = .ok (.iload_n 1, 1) := by decide +kernel
theorem dX8_keep_13 : decode cX8_keep 13 = .ok (.aload_n 0, 1) := by decide +kernel
theorem dX8_keep_14 : decode cX8_keep 14 = .ok (.getfield 82, 3) := by decide +kernel
theorem dX8_keep_17 : decode cX8_keep 17 = .ok (.arraylength, 1) := by decide +kernel
theorem dX8_keep_18 : decode cX8_keep 18 = .ok (.if_icmp .ge 24, 3) := by decide +kernel
theorem dX8_keep_21 : decode cX8_keep 21 = .ok (.aload_n 0, 1) := by decide +kernel
theorem dX8_keep_22 : decode cX8_keep 22 = .ok (.getfield 82, 3) := by decide +kernel
theorem dX8_keep_25 : decode cX8_keep 25 = .ok (.iload_n 1, 1) := by decide +kernel
theorem dX8_keep_26 : decode cX8_keep 26 = .ok (.bipush 45, 2) := by decide +kernel
theorem dX8_keep_28 : decode cX8_keep 28 = .ok (.isub, 1) := by decide +kernel
theorem dX8_keep_29 : decode cX8_keep 29 = .ok (.aload_n 0, 1) := by decide +kernel
theorem dX8_keep_30 : decode cX8_keep 30 = .ok (.getfield 82, 3) := by decide +kernel
theorem dX8_keep_33 : decode cX8_keep 33 = .ok (.iload_n 1, 1) := by decide +kernel
theorem dX8_keep_34 : decode cX8_keep 34 = .ok (.iaload, 1) := by decide +kernel
theorem dX8_keep_35 : decode cX8_keep 35 = .ok (.iastore, 1) := by decide +kernel
theorem dX8_keep_36 : decode cX8_keep 36 = .ok (.iinc 1 1, 3) := by decide +kernel
theorem dX8_keep_39 : decode cX8_keep 39 = .ok (.goto (-27), 3) := by decide +kernel
theorem dX8_keep_42 : decode cX8_keep 42 = .ok (.aload_n 0, 1) := by decide +kernel
theorem dX8_keep_43 : decode cX8_keep 43 = .ok (.dup, 1) := by decide +kernel
theorem dX8_keep_44 : decode cX8_keep 44 = .ok (.getfield 323, 3) := by decide +kernel
theorem dX8_keep_47 : decode cX8_keep 47 = .ok (.iconst 1, 1) := by decide +kernel
theorem dX8_keep_48 : decode cX8_keep 48 = .ok (.isub, 1) := by decide +kernel
theorem dX8_keep_49 : decode cX8_keep 49 = .ok (.putfield 323, 3) := by decide +kernel
theorem dX8_keep_52 : decode cX8_keep 52 = .ok (.aload_n 0, 1) := by decide +kernel
theorem dX8_keep_53 : decode cX8_keep 53 = .ok (.aload_n 0, 1) := by decide +kernel
theorem dX8_keep_54 : decode cX8_keep 54 = .ok (.getfield 82, 3) := by decide +kernel
theorem dX8_keep_57 : decode cX8_keep 57 = .ok (.bipush 45, 2) := by decide +kernel
theorem dX8_keep_59 : decode cX8_keep 59 = .ok (.aload_n 0, 1) := by decide +kernel
theorem dX8_keep_60 : decode cX8_keep 60 = .ok (.getfield 323, 3) := by decide +kernel
theorem dX8_keep_63 : decode cX8_keep 63 = .ok (.imul, 1) := by decide +kernel
theorem dX8_keep_64 : decode cX8_keep 64 = .ok (.invokevirtual 429, 3) := by decide +kernel
theorem dX8_keep_67 : decode cX8_keep 67 = .ok (.aload_n 0, 1) := by decide +kernel
theorem dX8_keep_68 : decode cX8_keep 68 = .ok (.dup, 1) := by decide +kernel
theorem dX8_keep_69 : decode cX8_keep 69 = .ok (.getfield 323, 3) := by decide +kernel
theorem dX8_keep_72 : decode cX8_keep 72 = .ok (.iconst 1, 1) := by decide +kernel
theorem dX8_keep_73 : decode cX8_keep 73 = .ok (.iadd, 1) := by decide +kernel
theorem dX8_keep_74 : decode cX8_keep 74 = .ok (.putfield 323, 3) := by decide +kernel
theorem dX8_keep_77 : decode cX8_keep 77 = .ok (.return_, 1) := by decide +kernel
theorem dX8_start_0 : decode cX8_start 0 = .ok (.aload_n 0, 1) := by decide +kernel
theorem dX8_start_1 : decode cX8_start 1 = .ok (.iconst 0, 1) := by decide +kernel
theorem dX8_start_2 : decode cX8_start 2 = .ok (.putfield 150, 3) := by decide +kernel
theorem dX8_start_5 : decode cX8_start 5 = .ok (.aload_n 0, 1) := by decide +kernel
theorem dX8_start_6 : decode cX8_start 6 = .ok (.iload_n 1, 1) := by decide +kernel
theorem dX8_start_7 : decode cX8_start 7 = .ok (.invokevirtual 419, 3) := by decide +kernel
theorem dX8_start_10 : decode cX8_start 10 = .ok (.ifCond .ne 9, 3) := by decide +kernel
theorem dX8_start_13 : decode cX8_start 13 = .ok (.aload_n 0, 1) := by decide +kernel
theorem dX8_start_14 : decode cX8_start 14 = .ok (.iconst 1, 1) := by decide +kernel
theorem dX8_start_15 : decode cX8_start 15 = .ok (.invokevirtual 298, 3) := by decide +kernel
theorem dX8_start_18 : decode cX8_start 18 = .ok (.ireturn, 1) := by decide +kernel
theorem dX8_start_19 : decode cX8_start 19 = .ok (.iload_n 2, 1) := by decide +kernel
theorem dX8_start_20 : decode cX8_start 20 = .ok (.i2l, 1) := by decide +kernel
theorem dX8_start_21 : decode cX8_start 21 = .ok (.lconst 0, 1) := by decide +kernel
theorem dX8_start_22 : decode cX8_start 22 = .ok (.ldc2_w 433, 3) := by decide +kernel
theorem dX8_start_25 : decode cX8_start 25 = .ok (.invokestatic 153, 3) := by decide +kernel
theorem dX8_start_28 : decode cX8_start 28 = .ok (.ifCond .ne 9, 3) := by decide +kernel
theorem dX8_start_31 : decode cX8_start 31 = .ok (.aload_n 0, 1) := by decide +kernel
theorem dX8_start_32 : decode cX8_start 32 = .ok (.iconst 1, 1) := by decide +kernel
theorem dX8_start_33 : decode cX8_start 33 = .ok (.invokevirtual 435, 3) := by decide +kernel
theorem dX8_start_36 : decode cX8_start 36 = .ok (.ireturn, 1) := by decide +kernel
theorem dX8_start_37 : decode cX8_start 37 = .ok (.aload_n 0, 1) := by decide +kernel
theorem dX8_start_38 : decode cX8_start 38 = .ok (.invokevirtual 438, 3) := by decide +kernel
theorem dX8_start_41 : decode cX8_start 41 = .ok (.aload_n 0, 1) := by decide +kernel
theorem dX8_start_42 : decode cX8_start 42 = .ok (.getfield 44, 3) := by decide +kernel
theorem dX8_start_45 : decode cX8_start 45 = .ok (.iload_n 1, 1) := by decide +kernel
theorem dX8_start_46 : decode cX8_start 46 = .ok (.iaload, 1) := by decide +kernel
theorem dX8_start_47 : decode cX8_start 47 = .ok (.istore_n 3, 1) := by decide +kernel
theorem dX8_start_48 : decode cX8_start 48 = .ok (.aload_n 0, 1) := by decide +kernel
theorem dX8_start_49 : decode cX8_start 49 = .ok (.getfield 44, 3) := by decide +kernel
theorem dX8_start_52 : decode cX8_start 52 = .ok (.iload_n 1, 1) := by decide +kernel
theorem dX8_start_53 : decode cX8_start 53 = .ok (.iload_n 2, 1) := by decide +kernel
theorem dX8_start_54 : decode cX8_start 54 = .ok (.iastore, 1) := by decide +kernel
theorem dX8_start_55 : decode cX8_start 55 = .ok (.iload_n 3, 1) := by decide +kernel
theorem dX8_start_56 : decode cX8_start 56 = .ok (.ireturn, 1) := by decide +kernel
theorem dX8_inn_0 : decode cX8_inn 0 = .ok (.aload_n 0, 1) := by decide +kernel
theorem dX8_inn_1 : decode cX8_inn 1 = .ok (.iconst 0, 1) := by decide +kernel
theorem dX8_inn_2 : decode cX8_inn 2 = .ok (.putfield 150, 3) := by decide +kernel
theorem dX8_inn_5 : decode cX8_inn 5 = .ok (.aload_n 0, 1) := by decide +kernel
theorem dX8_inn_6 : decode cX8_inn 6 = .ok (.iload_n 1, 1) := by decide +kernel
theorem dX8_inn_7 : decode cX8_inn 7 = .ok (.invokevirtual 413, 3) := by decide +kernel
theorem dX8_inn_10 : decode cX8_inn 10 = .ok (.ifCond .ne 10, 3) := by decide +kernel
theorem dX8_inn_13 : decode cX8_inn 13 = .ok (.aload_n 0, 1) := by decide +kernel
theorem dX8_inn_14 : decode cX8_inn 14 = .ok (.iconst 1, 1) := by decide +kernel
theorem dX8_inn_15 : decode cX8_inn 15 = .ok (.putfield 150, 3) := by decide +kernel
theorem dX8_inn_18 : decode cX8_inn 18 = .ok (.iconst 0, 1) := by decide +kernel
theorem dX8_inn_19 : decode cX8_inn 19 = .ok (.ireturn, 1) := by decide +kernel
theorem dX8_inn_20 : decode cX8_inn 20 = .ok (.aload_n 0, 1) := by decide +kernel
theorem dX8_inn_21 : decode cX8_inn 21 = .ok (.getfield 311, 3) := by decide +kernel
theorem dX8_inn_24 : decode cX8_inn 24 = .ok (.iload_n 1, 1) := by decide +kernel
theorem dX8_inn_25 : decode cX8_inn 25 = .ok (.ishr, 1) := by decide +kernel
theorem dX8_inn_26 : decode cX8_inn 26 = .ok (.iconst 1, 1) := by decide +kernel
theorem dX8_inn_27 : decode cX8_inn 27 = .ok (.iand, 1) := by decide +kernel
theorem dX8_inn_28 : decode cX8_inn 28 = .ok (.iload_n 2, 1) := by decide +kernel
theorem dX8_inn_29 : decode cX8_inn 29 = .ok (.ifCond .eq 7, 3) := by decide +kernel
theorem dX8_inn_32 : decode cX8_inn 32 = .ok (.iconst 1, 1) := by decide +kernel
theorem dX8_inn_33 : decode cX8_inn 33 = .ok (.goto 4, 3) := by decide +kernel
theorem dX8_inn_36 : decode cX8_inn 36 = .ok (.iconst 0, 1) := by decide +kernel
theorem dX8_inn_37 : decode cX8_inn 37 = .ok (.if_icmp .ne 15, 3) := by decide +kernel
theorem dX8_inn_40 : decode cX8_inn 40 = .ok (.aload_n 0, 1) := by decide +kernel
theorem dX8_inn_41 : decode cX8_inn 41 = .ok (.getfield 60, 3) := by decide +kernel
theorem dX8_inn_44 : decode cX8_inn 44 = .ok (.iconst 1, 1) := by decide +kernel
theorem dX8_inn_45 : decode cX8_inn 45 = .ok (.dup2, 1) := by decide +kernel
theorem dX8_inn_46 : decode cX8_inn 46 = .ok (.iaload, 1) := by decide +kernel
theorem dX8_inn_47 : decode cX8_inn 47 = .ok (.iconst 1, 1) := by decide +kernel
theorem dX8_inn_48 : decode cX8_inn 48 = .ok (.iadd, 1) := by decide +kernel
theorem dX8_inn_49 : decode cX8_inn 49 = .ok (.iastore, 1) := by decide +kernel
theorem dX8_inn_50 : decode cX8_inn 50 = .ok (.iconst 0, 1) := by decide +kernel
theorem dX8_inn_51 : decode cX8_inn 51 = .ok (.ireturn, 1) := by decide +kernel
theorem dX8_inn_52 : decode cX8_inn 52 = .ok (.aload_n 0, 1) := by decide +kernel
theorem dX8_inn_53 : decode cX8_inn 53 = .ok (.invokevirtual 438, 3) := by decide +kernel
theorem dX8_inn_56 : decode cX8_inn 56 = .ok (.aload_n 0, 1) := by decide +kernel
theorem dX8_inn_57 : decode cX8_inn 57 = .ok (.dup, 1) := by decide +kernel
theorem dX8_inn_58 : decode cX8_inn 58 = .ok (.getfield 311, 3) := by decide +kernel
theorem dX8_inn_61 : decode cX8_inn 61 = .ok (.iconst 1, 1) := by decide +kernel
theorem dX8_inn_62 : decode cX8_inn 62 = .ok (.iload_n 1, 1) := by decide +kernel
theorem dX8_inn_63 : decode cX8_inn 63 = .ok (.ishl, 1) := by decide +kernel
theorem dX8_inn_64 : decode cX8_inn 64 = .ok (.ixor, 1) := by decide +kernel
theorem dX8_inn_65 : decode cX8_inn 65 = .ok (.putfield 311, 3) := by decide +kernel
theorem dX8_inn_68 : decode cX8_inn 68 = .ok (.iconst 1, 1) := by decide +kernel
theorem dX8_inn_69 : decode cX8_inn 69 = .ok (.ireturn, 1) := by decide +kernel
theorem dX8_putRow_0 : decode cX8_putRow 0 = .ok (.aload_n 0, 1) := by decide +kernel
theorem dX8_putRow_1 : decode cX8_putRow 1 = .ok (.iconst 3, 1) := by decide +kernel
theorem dX8_putRow_2 : decode cX8_putRow 2 = .ok (.iload_n 1, 1) := by decide +kernel
theorem dX8_putRow_3 : decode cX8_putRow 3 = .ok (.imul, 1) := by decide +kernel
theorem dX8_putRow_4 : decode cX8_putRow 4 = .ok (.iload_n 2, 1) := by decide +kernel
theorem dX8_putRow_5 : decode cX8_putRow 5 = .ok (.iastore, 1) := by decide +kernel
theorem dX8_putRow_6 : decode cX8_putRow 6 = .ok (.aload_n 0, 1) := by decide +kernel
theorem dX8_putRow_7 : decode cX8_putRow 7 = .ok (.iconst 3, 1) := by decide +kernel
theorem dX8_putRow_8 : decode cX8_putRow 8 = .ok (.iload_n 1, 1) := by decide +kernel
theorem dX8_putRow_9 : decode cX8_putRow 9 = .ok (.imul, 1) := by decide +kernel
theorem dX8_putRow_10 : decode cX8_putRow 10 = .ok (.iconst 1, 1) := by decide +kernel
theorem dX8_putRow_11 : decode cX8_putRow 11 = .ok (.iadd, 1) := by decide +kernel
theorem dX8_putRow_12 : decode cX8_putRow 12 = .ok (.iload_n 3, 1) := by decide +kernel
theorem dX8_putRow_13 : decode cX8_putRow 13 = .ok (.iastore, 1) := by decide +kernel
theorem dX8_putRow_14 : decode cX8_putRow 14 = .ok (.aload_n 0, 1) := by decide +kernel
theorem dX8_putRow_15 : decode cX8_putRow 15 = .ok (.iconst 3, 1) := by decide +kernel
theorem dX8_putRow_16 : decode cX8_putRow 16 = .ok (.iload_n 1, 1) := by decide +kernel
theorem dX8_putRow_17 : decode cX8_putRow 17 = .ok (.imul, 1) := by decide +kernel
theorem dX8_putRow_18 : decode cX8_putRow 18 = .ok (.iconst 2, 1) := by decide +kernel
theorem dX8_putRow_19 : decode cX8_putRow 19 = .ok (.iadd, 1) := by decide +kernel
theorem dX8_putRow_20 : decode cX8_putRow 20 = .ok (.iload 4, 2) := by decide +kernel
theorem dX8_putRow_22 : decode cX8_putRow 22 = .ok (.iastore, 1) := by decide +kernel
theorem dX8_putRow_23 : decode cX8_putRow 23 = .ok (.return_, 1) := by decide +kernel
theorem dX8_word_0 : decode cX8_word 0 = .ok (.aload_n 0, 1) := by decide +kernel
theorem dX8_word_1 : decode cX8_word 1 = .ok (.iconst 0, 1) := by decide +kernel
theorem dX8_word_2 : decode cX8_word 2 = .ok (.putfield 150, 3) := by decide +kernel
theorem dX8_word_5 : decode cX8_word 5 = .ok (.aload_n 0, 1) := by decide +kernel
theorem dX8_word_6 : decode cX8_word 6 = .ok (.iload_n 1, 1) := by decide +kernel
theorem dX8_word_7 : decode cX8_word 7 = .ok (.invokevirtual 424, 3) := by decide +kernel
theorem dX8_word_10 : decode cX8_word 10 = .ok (.ifCond .eq 11, 3) := by decide +kernel
theorem dX8_word_13 : decode cX8_word 13 = .ok (.aload_n 0, 1) := by decide +kernel
theorem dX8_word_14 : decode cX8_word 14 = .ok (.iload_n 2, 1) := by decide +kernel
theorem dX8_word_15 : decode cX8_word 15 = .ok (.invokevirtual 413, 3) := by decide +kernel
theorem dX8_word_18 : decode cX8_word 18 = .ok (.ifCond .ne 9, 3) := by decide +kernel
theorem dX8_word_21 : decode cX8_word 21 = .ok (.aload_n 0, 1) := by decide +kernel
theorem dX8_word_22 : decode cX8_word 22 = .ok (.iconst 1, 1) := by decide +kernel
theorem dX8_word_23 : decode cX8_word 23 = .ok (.invokevirtual 298, 3) := by decide +kernel
theorem dX8_word_26 : decode cX8_word 26 = .ok (.ireturn, 1) := by decide +kernel
theorem dX8_word_27 : decode cX8_word 27 = .ok (.aload_n 0, 1) := by decide +kernel
theorem dX8_word_28 : decode cX8_word 28 = .ok (.getfield 314, 3) := by decide +kernel
theorem dX8_word_31 : decode cX8_word 31 = .ok (.iconst 4, 1) := by decide +kernel
theorem dX8_word_32 : decode cX8_word 32 = .ok (.if_icmp .eq 15, 3) := by decide +kernel
theorem dX8_word_35 : decode cX8_word 35 = .ok (.iload_n 3, 1) := by decide +kernel
theorem dX8_word_36 : decode cX8_word 36 = .ok (.i2l, 1) := by decide +kernel
theorem dX8_word_37 : decode cX8_word 37 = .ok (.lconst 0, 1) := by decide +kernel
theorem dX8_word_38 : decode cX8_word 38 = .ok (.ldc2_w 441, 3) := by decide +kernel
theorem dX8_word_41 : decode cX8_word 41 = .ok (.invokestatic 153, 3) := by decide +kernel
theorem dX8_word_44 : decode cX8_word 44 = .ok (.ifCond .ne 9, 3) := by decide +kernel
theorem dX8_word_47 : decode cX8_word 47 = .ok (.aload_n 0, 1) := by decide +kernel
theorem dX8_word_48 : decode cX8_word 48 = .ok (.iconst 1, 1) := by decide +kernel
theorem dX8_word_49 : decode cX8_word 49 = .ok (.invokevirtual 435, 3) := by decide +kernel
theorem dX8_word_52 : decode cX8_word 52 = .ok (.ireturn, 1) := by decide +kernel
theorem dX8_word_53 : decode cX8_word 53 = .ok (.aload_n 0, 1) := by decide +kernel
theorem dX8_word_54 : decode cX8_word 54 = .ok (.invokevirtual 438, 3) := by decide +kernel
theorem dX8_word_57 : decode cX8_word 57 = .ok (.aload_n 0, 1) := by decide +kernel
theorem dX8_word_58 : decode cX8_word 58 = .ok (.getfield 73, 3) := by decide +kernel
theorem dX8_word_61 : decode cX8_word 61 = .ok (.aload_n 0, 1) := by decide +kernel
theorem dX8_word_62 : decode cX8_word 62 = .ok (.getfield 314, 3) := by decide +kernel
theorem dX8_word_65 : decode cX8_word 65 = .ok (.iload_n 1, 1) := by decide +kernel
theorem dX8_word_66 : decode cX8_word 66 = .ok (.iload_n 2, 1) := by decide +kernel
theorem dX8_word_67 : decode cX8_word 67 = .ok (.iload_n 3, 1) := by decide +kernel
theorem dX8_word_68 : decode cX8_word 68 = .ok (.invokestatic 443, 3) := by decide +kernel
theorem dX8_word_71 : decode cX8_word 71 = .ok (.aload_n 0, 1) := by decide +kernel
theorem dX8_word_72 : decode cX8_word 72 = .ok (.dup, 1) := by decide +kernel
theorem dX8_word_73 : decode cX8_word 73 = .ok (.getfield 314, 3) := by decide +kernel
theorem dX8_word_76 : decode cX8_word 76 = .ok (.iconst 1, 1) := by decide +kernel
theorem dX8_word_77 : decode cX8_word 77 = .ok (.iadd, 1) := by decide +kernel
theorem dX8_word_78 : decode cX8_word 78 = .ok (.putfield 314, 3) := by decide +kernel
theorem dX8_word_81 : decode cX8_word 81 = .ok (.aload_n 0, 1) := by decide +kernel
theorem dX8_word_82 : decode cX8_word 82 = .ok (.getfield 314, 3) := by decide +kernel
theorem dX8_word_85 : decode cX8_word 85 = .ok (.ireturn, 1) := by decide +kernel
theorem dX8_feast_0 : decode cX8_feast 0 = .ok (.aload_n 0, 1) := by decide +kernel
theorem dX8_feast_1 : decode cX8_feast 1 = .ok (.iconst 0, 1) := by decide +kernel
theorem dX8_feast_2 : decode cX8_feast 2 = .ok (.putfield 150, 3) := by decide +kernel
theorem dX8_feast_5 : decode cX8_feast 5 = .ok (.aload_n 0, 1) := by decide +kernel
theorem dX8_feast_6 : decode cX8_feast 6 = .ok (.iload_n 1, 1) := by decide +kernel
theorem dX8_feast_7 : decode cX8_feast 7 = .ok (.invokevirtual 413, 3) := by decide +kernel
theorem dX8_feast_10 : decode cX8_feast 10 = .ok (.ifCond .ne 9, 3) := by decide +kernel
theorem dX8_feast_13 : decode cX8_feast 13 = .ok (.aload_n 0, 1) := by decide +kernel
theorem dX8_feast_14 : decode cX8_feast 14 = .ok (.iconst 1, 1) := by decide +kernel
theorem dX8_feast_15 : decode cX8_feast 15 = .ok (.invokevirtual 298, 3) := by decide +kernel
theorem dX8_feast_18 : decode cX8_feast 18 = .ok (.ireturn, 1) := by decide +kernel
theorem dX8_feast_19 : decode cX8_feast 19 = .ok (.aload_n 0, 1) := by decide +kernel
theorem dX8_feast_20 : decode cX8_feast 20 = .ok (.getfield 317, 3) := by decide +kernel
theorem dX8_feast_23 : decode cX8_feast 23 = .ok (.iconst 4, 1) := by decide +kernel
theorem dX8_feast_24 : decode cX8_feast 24 = .ok (.if_icmp .eq 28, 3) := by decide +kernel
theorem dX8_feast_27 : decode cX8_feast 27 = .ok (.iload_n 2, 1) := by decide +kernel
theorem dX8_feast_28 : decode cX8_feast 28 = .ok (.i2l, 1) := by decide +kernel
theorem dX8_feast_29 : decode cX8_feast 29 = .ok (.lconst 0, 1) := by decide +kernel
theorem dX8_feast_30 : decode cX8_feast 30 = .ok (.ldc2_w 441, 3) := by decide +kernel
theorem dX8_feast_33 : decode cX8_feast 33 = .ok (.invokestatic 153, 3) := by decide +kernel
theorem dX8_feast_36 : decode cX8_feast 36 = .ok (.ifCond .eq 16, 3) := by decide +kernel
theorem dX8_feast_39 : decode cX8_feast 39 = .ok (.iload_n 3, 1) := by decide +kernel
theorem dX8_feast_40 : decode cX8_feast 40 = .ok (.i2l, 1) := by decide +kernel
theorem dX8_feast_41 : decode cX8_feast 41 = .ok (.iload_n 2, 1) := by decide +kernel
theorem dX8_feast_42 : decode cX8_feast 42 = .ok (.i2l, 1) := by decide +kernel
theorem dX8_feast_43 : decode cX8_feast 43 = .ok (.ldc2_w 441, 3) := by decide +kernel
theorem dX8_feast_46 : decode cX8_feast 46 = .ok (.invokestatic 153, 3) := by decide +kernel
theorem dX8_feast_49 : decode cX8_feast 49 = .ok (.ifCond .ne 9, 3) := by decide +kernel
theorem dX8_feast_52 : decode cX8_feast 52 = .ok (.aload_n 0, 1) := by decide +kernel
theorem dX8_feast_53 : decode cX8_feast 53 = .ok (.iconst 1, 1) := by decide +kernel
theorem dX8_feast_54 : decode cX8_feast 54 = .ok (.invokevirtual 435, 3) := by decide +kernel
theorem dX8_feast_57 : decode cX8_feast 57 = .ok (.ireturn, 1) := by decide +kernel
theorem dX8_feast_58 : decode cX8_feast 58 = .ok (.aload_n 0, 1) := by decide +kernel
theorem dX8_feast_59 : decode cX8_feast 59 = .ok (.invokevirtual 438, 3) := by decide +kernel
theorem dX8_feast_62 : decode cX8_feast 62 = .ok (.aload_n 0, 1) := by decide +kernel
theorem dX8_feast_63 : decode cX8_feast 63 = .ok (.getfield 76, 3) := by decide +kernel
theorem dX8_feast_66 : decode cX8_feast 66 = .ok (.aload_n 0, 1) := by decide +kernel
theorem dX8_feast_67 : decode cX8_feast 67 = .ok (.getfield 317, 3) := by decide +kernel
theorem dX8_feast_70 : decode cX8_feast 70 = .ok (.iload_n 1, 1) := by decide +kernel
theorem dX8_feast_71 : decode cX8_feast 71 = .ok (.iload_n 2, 1) := by decide +kernel
theorem dX8_feast_72 : decode cX8_feast 72 = .ok (.iload_n 3, 1) := by decide +kernel
theorem dX8_feast_73 : decode cX8_feast 73 = .ok (.invokestatic 443, 3) := by decide +kernel
theorem dX8_feast_76 : decode cX8_feast 76 = .ok (.aload_n 0, 1) := by decide +kernel
theorem dX8_feast_77 : decode cX8_feast 77 = .ok (.dup, 1) := by decide +kernel
theorem dX8_feast_78 : decode cX8_feast 78 = .ok (.getfield 317, 3) := by decide +kernel
theorem dX8_feast_81 : decode cX8_feast 81 = .ok (.iconst 1, 1) := by decide +kernel
theorem dX8_feast_82 : decode cX8_feast 82 = .ok (.iadd, 1) := by decide +kernel
theorem dX8_feast_83 : decode cX8_feast 83 = .ok (.putfield 317, 3) := by decide +kernel
theorem dX8_feast_86 : decode cX8_feast 86 = .ok (.aload_n 0, 1) := by decide +kernel
theorem dX8_feast_87 : decode cX8_feast 87 = .ok (.getfield 317, 3) := by decide +kernel
theorem dX8_feast_90 : decode cX8_feast 90 = .ok (.ireturn, 1) := by decide +kernel
def f_X8_stop_40   (I : Mem) : Option (Int32 × Mem) :=
  (f_X8_fail I (1 : Int32)).bind fun y1 =>
  some (y1.1, y1.2)
theorem b_X8_stop_40 (X : CX) (Q : State → Prop) {I : Mem} {P : PMem} {O : Nat → Int64} {D : Bool} {n : Nat} {r : (Int32 × Mem)}  (h : f_X8_stop_40 I = some r) (E : EndR X cX8_stop RX8 4 (some .int) 4 n (some (.inl r.1)) r.2 P O D Q) : Here X cX8_stop RX8 4 (some .int) 4 n 40 [some (.inr (.inr (8, 0, 0))), none, none, none] [] I P O D n Q := by
  unfold f_X8_stop_40 at h
  refine h_aload_n dX8_stop_40 rfl ?_
  refine h_iconst (1 : Int32) dX8_stop_41 k_iconst_1 ?_
  obtain ⟨y1, hh1, h⟩ := obd_some h
  refine h_cVi [.inl (1 : Int32)] (m_X8_fail  hh1) cw_X8_298 dX8_stop_42 rfl ok_8 (by decide) rfl (Or.inr rfl) rfl ?_
  cases h
  exact h_iret dX8_stop_45 rfl E
def f_X8_stop   (I : Mem) (v1 : Int32) (v2 : Int32) (v3 : Int32) : Option (Int32 × Mem) :=
  bnd (upd4 I 8 0 0 2 (0 : Int32)) fun I1' =>
  (f_X8_isJudge I1' v1).bind fun y1 =>
  if y1 = 0 then (f_X8_stop_40 I1') else (gd (inb v1 10) <|
  (f_X8_isIn I1' v2.toInt64 (0 : Int64) (((I1' 55 0 0 v1.toNatClampNeg) - (1 : Int32)).toInt64)).bind fun y2 =>
  if y2 = 0 then (f_X8_stop_40 I1') else (if v3 < 0 then (f_X8_stop_40 I1') else (if v3 ≤ (1 : Int32) then ((f_X8_set I1').bind fun y3 =>
  (f_X8_tellStops y3).bind fun y4 =>
  if v3 = 0 then (gd (inb (((7 : Int32) * v1) + v2) 35) <|
  some ((y4 68 0 0 ((((7 : Int32) * v1) + v2).toNatClampNeg)), y4)) else (gd (inb (((7 : Int32) * v1) + v2) 35) <|
  some ((y4 69 0 0 ((((7 : Int32) * v1) + v2).toNatClampNeg)), y4))) else (f_X8_stop_40 I1'))))
theorem b_X8_stop (X : CX) (Q : State → Prop) {I : Mem} {P : PMem} {O : Nat → Int64} {D : Bool} {n : Nat} {v1 : Int32} {v2 : Int32} {v3 : Int32} {r : (Int32 × Mem)}  (h : f_X8_stop I v1 v2 v3 = some r) (E : EndR X cX8_stop RX8 4 (some .int) 4 n (some (.inl r.1)) r.2 P O D Q) : Here X cX8_stop RX8 4 (some .int) 4 n 0 [some (.inr (.inr (8, 0, 0))), some (.inl v1), some (.inl v2), some (.inl v3)] [] I P O D n Q := by
  unfold f_X8_stop at h
  refine h_aload_n dX8_stop_0 rfl ?_
  refine h_iconst (0 : Int32) dX8_stop_1 k_iconst_0 ?_
  obtain ⟨I1', e1, h⟩ := bnd_some h
  refine p_X8_150  dX8_stop_2 ?_
  refine h_nmI e1 ?_
  refine h_aload_n dX8_stop_5 rfl ?_
  refine h_iload_n dX8_stop_6 rfl ?_
  obtain ⟨y1, hh1, h⟩ := obd_some h
  refine h_cVi [.inl v1] (m_X8_isJudge  hh1) cw_X8_419 dX8_stop_7 rfl ok_8 (by decide) rfl (Or.inr rfl) rfl ?_
  refine h_if_eq (tgt := 40) dX8_stop_10 (by decide) (fun q1 => ?_) (fun q1 => ?_)
  · rw [if_pos q1] at h
    exact h_mask [true, false, false, false] (b_X8_stop_40 X Q  h E)
  · rw [if_neg q1] at h
    refine h_iload_n dX8_stop_13 rfl ?_
    refine h_i2l dX8_stop_14 ?_
    refine h_lconst 0 dX8_stop_15 rfl ?_
    refine h_aload_n dX8_stop_16 rfl ?_
    refine g_X8_49  dX8_stop_17 ?_
    refine h_iload_n dX8_stop_20 rfl ?_
    obtain ⟨g1, h⟩ := gd_some h
    refine al_55  v1.toNatClampNeg rfl dX8_stop_21 g1 ?_
    refine h_iconst (1 : Int32) dX8_stop_22 k_iconst_1 ?_
    refine h_isub dX8_stop_23 ?_
    refine h_i2l dX8_stop_24 ?_
    obtain ⟨y2, hh2, h⟩ := obd_some h
    refine h_cSi [.inr (.inl v2.toInt64), .inr (.inl (0 : Int64)), .inr (.inl (((I1' 55 0 0 v1.toNatClampNeg) - (1 : Int32)).toInt64))] (m_X8_isIn  hh2) cs_X8_153 dX8_stop_25 rfl (by decide) rfl (Or.inr rfl) rfl ?_
    refine h_if_eq (tgt := 40) dX8_stop_28 (by decide) (fun q2 => ?_) (fun q2 => ?_)
    · rw [if_pos q2] at h
      exact h_mask [true, false, false, false] (b_X8_stop_40 X Q  h E)
    · rw [if_neg q2] at h
      refine h_iload_n dX8_stop_31 rfl ?_
      refine h_if_lt (tgt := 40) dX8_stop_32 (by decide) (fun q3 => ?_) (fun q3 => ?_)
      · rw [if_pos q3] at h
        exact h_mask [true, false, false, false] (b_X8_stop_40 X Q  h E)
      · rw [if_neg q3] at h
        refine h_iload_n dX8_stop_35 rfl ?_
        refine h_iconst (1 : Int32) dX8_stop_36 k_iconst_1 ?_
        refine h_icmp_le (tgt := 46) dX8_stop_37 (by decide) (fun q4 => ?_) (fun q4 => ?_)
        · rw [if_pos q4] at h
          refine h_aload_n dX8_stop_46 rfl ?_
          obtain ⟨y3, hh3, h⟩ := obd_some h
          refine h_cVv [] (m_X8_set  hh3) cw_X8_404 dX8_stop_47 rfl ok_8 (by decide) rfl (Or.inr rfl) rfl ?_
          refine h_aload_n dX8_stop_50 rfl ?_
          obtain ⟨y4, hh4, h⟩ := obd_some h
          refine h_cVv [] (m_X8_tellStops  hh4) cw_X8_388 dX8_stop_51 rfl ok_8 (by decide) rfl (Or.inr rfl) rfl ?_
          refine h_iload_n dX8_stop_54 rfl ?_
          refine h_if_ne (tgt := 72) dX8_stop_55 (by decide) (fun q5 => ?_) (fun q5 => ?_)
          · rw [if_neg q5] at h
            refine h_aload_n dX8_stop_72 rfl ?_
            refine g_X8_94  dX8_stop_73 ?_
            refine h_bipush (7 : Int32) dX8_stop_76 k_bipush_7 ?_
            refine h_iload_n dX8_stop_78 rfl ?_
            refine h_imul dX8_stop_79 ?_
            refine h_iload_n dX8_stop_80 rfl ?_
            refine h_iadd dX8_stop_81 ?_
            obtain ⟨g2, h⟩ := gd_some h
            refine al_69  ((((7 : Int32) * v1) + v2).toNatClampNeg) rfl dX8_stop_82 g2 ?_
            cases h
            exact h_iret dX8_stop_83 rfl E
          · rw [if_pos q5] at h
            refine h_aload_n dX8_stop_58 rfl ?_
            refine g_X8_91  dX8_stop_59 ?_
            refine h_bipush (7 : Int32) dX8_stop_62 k_bipush_7 ?_
            refine h_iload_n dX8_stop_64 rfl ?_
            refine h_imul dX8_stop_65 ?_
            refine h_iload_n dX8_stop_66 rfl ?_
            refine h_iadd dX8_stop_67 ?_
            obtain ⟨g3, h⟩ := gd_some h
            refine al_68  ((((7 : Int32) * v1) + v2).toNatClampNeg) rfl dX8_stop_68 g3 ?_
            refine h_goto (tgt := 83) dX8_stop_69 (by decide) ?_
            cases h
            exact h_iret dX8_stop_83 rfl E
        · rw [if_neg q4] at h
          exact h_mask [true, false, false, false] (b_X8_stop_40 X Q  h E)
theorem m_X8_stop {I : Mem} {P : PMem} {O : Nat → Int64} {D : Bool} {n : Nat} {v1 : Int32} {v2 : Int32} {v3 : Int32} {r : (Int32 × Mem)}  (h : f_X8_stop I v1 v2 v3 = some r) : MethR yX8_stop cX8_stop 4 (some .int) 4 [.inr (.inr (8, 0, 0)), .inl v1, .inl v2, .inl v3] I P O D n (some (.inl r.1)) r.2 P O D n := meth_R (Nat.le_refl _) (by decide) rfl (Nat.le_of_ble_eq_true rfl) rfl (fun X Q E => b_X8_stop X Q  h E)
def f_X8_where   (I : Mem) (v1 : Int32) (v2 : Int32) : Option (Int32 × Mem) :=
  bnd (upd4 I 8 0 0 2 (0 : Int32)) fun I1' =>
  (f_X8_isJudge I1' v1).bind fun y1 =>
  if y1 = 0 then ((f_X8_fail I1' (1 : Int32)).bind fun y5 =>
  some (y5.1, y5.2)) else ((f_X8_set I1').bind fun y2 =>
  (f_X8_tellStops y2).bind fun y3 =>
  (f_X8_townOn y3 v1 v2).bind fun y4 =>
  some (y4, y3))
theorem b_X8_where (X : CX) (Q : State → Prop) {I : Mem} {P : PMem} {O : Nat → Int64} {D : Bool} {n : Nat} {v1 : Int32} {v2 : Int32} {r : (Int32 × Mem)}  (h : f_X8_where I v1 v2 = some r) (E : EndR X cX8_where RX8 3 (some .int) 4 n (some (.inl r.1)) r.2 P O D Q) : Here X cX8_where RX8 3 (some .int) 4 n 0 [some (.inr (.inr (8, 0, 0))), some (.inl v1), some (.inl v2)] [] I P O D n Q := by
  unfold f_X8_where at h
  refine h_aload_n dX8_where_0 rfl ?_
  refine h_iconst (0 : Int32) dX8_where_1 k_iconst_0 ?_
  obtain ⟨I1', e1, h⟩ := bnd_some h
  refine p_X8_150  dX8_where_2 ?_
  refine h_nmI e1 ?_
  refine h_aload_n dX8_where_5 rfl ?_
  refine h_iload_n dX8_where_6 rfl ?_
  obtain ⟨y1, hh1, h⟩ := obd_some h
  refine h_cVi [.inl v1] (m_X8_isJudge  hh1) cw_X8_419 dX8_where_7 rfl ok_8 (by decide) rfl (Or.inr rfl) rfl ?_
  refine h_if_ne (tgt := 19) dX8_where_10 (by decide) (fun q1 => ?_) (fun q1 => ?_)
  · rw [if_neg q1] at h
    refine h_aload_n dX8_where_19 rfl ?_
    obtain ⟨y2, hh2, h⟩ := obd_some h
    refine h_cVv [] (m_X8_set  hh2) cw_X8_404 dX8_where_20 rfl ok_8 (by decide) rfl (Or.inr rfl) rfl ?_
    refine h_aload_n dX8_where_23 rfl ?_
    obtain ⟨y3, hh3, h⟩ := obd_some h
    refine h_cVv [] (m_X8_tellStops  hh3) cw_X8_388 dX8_where_24 rfl ok_8 (by decide) rfl (Or.inr rfl) rfl ?_
    refine h_aload_n dX8_where_27 rfl ?_
    refine h_iload_n dX8_where_28 rfl ?_
    refine h_iload_n dX8_where_29 rfl ?_
    obtain ⟨y4, hh4, h⟩ := obd_some h
    refine h_cVi [.inl v1, .inl v2] (m_X8_townOn  hh4) cw_X8_346 dX8_where_30 rfl ok_8 (by decide) rfl (Or.inr rfl) rfl ?_
    cases h
    exact h_iret dX8_where_33 rfl E
  · rw [if_pos q1] at h
    refine h_aload_n dX8_where_13 rfl ?_
    refine h_iconst (1 : Int32) dX8_where_14 k_iconst_1 ?_
    obtain ⟨y5, hh5, h⟩ := obd_some h
    refine h_cVi [.inl (1 : Int32)] (m_X8_fail  hh5) cw_X8_298 dX8_where_15 rfl ok_8 (by decide) rfl (Or.inr rfl) rfl ?_
    cases h
    exact h_iret dX8_where_18 rfl E
theorem m_X8_where {I : Mem} {P : PMem} {O : Nat → Int64} {D : Bool} {n : Nat} {v1 : Int32} {v2 : Int32} {r : (Int32 × Mem)}  (h : f_X8_where I v1 v2 = some r) : MethR yX8_where cX8_where 3 (some .int) 4 [.inr (.inr (8, 0, 0)), .inl v1, .inl v2] I P O D n (some (.inl r.1)) r.2 P O D n := meth_R (Nat.le_refl _) (by decide) rfl (Nat.le_of_ble_eq_true rfl) rfl (fun X Q E => b_X8_where X Q  h E)
def f_X8_proof_35   (I : Mem) : Option (Int32 × Mem) :=
  (f_X8_fail I (1 : Int32)).bind fun y1 =>
  some (y1.1, y1.2)
theorem b_X8_proof_35 (X : CX) (Q : State → Prop) {I : Mem} {P : PMem} {O : Nat → Int64} {D : Bool} {n : Nat} {r : (Int32 × Mem)}  (h : f_X8_proof_35 I = some r) (E : EndR X cX8_proof RX8 3 (some .int) 4 n (some (.inl r.1)) r.2 P O D Q) : Here X cX8_proof RX8 3 (some .int) 4 n 35 [some (.inr (.inr (8, 0, 0))), none, none] [] I P O D n Q := by
  unfold f_X8_proof_35 at h
  refine h_aload_n dX8_proof_35 rfl ?_
  refine h_iconst (1 : Int32) dX8_proof_36 k_iconst_1 ?_
  obtain ⟨y1, hh1, h⟩ := obd_some h
  refine h_cVi [.inl (1 : Int32)] (m_X8_fail  hh1) cw_X8_298 dX8_proof_37 rfl ok_8 (by decide) rfl (Or.inr rfl) rfl ?_
  cases h
  exact h_iret dX8_proof_40 rfl E
def f_X8_proof   (I : Mem) (v1 : Int32) (v2 : Int32) : Option (Int32 × Mem) :=
  bnd (upd4 I 8 0 0 2 (0 : Int32)) fun I1' =>
  (f_X8_isCase I1' v1).bind fun y1 =>
  if y1 = 0 then (f_X8_proof_35 I1') else ((f_X8_isTown I1' v2).bind fun y2 =>
  if y2 = 0 then (f_X8_proof_35 I1') else (gd (inb (((9 : Int32) * v1) + v2) 108) <|
  some ((I1' 57 0 0 ((((9 : Int32) * v1) + v2).toNatClampNeg)), I1')))
theorem b_X8_proof (X : CX) (Q : State → Prop) {I : Mem} {P : PMem} {O : Nat → Int64} {D : Bool} {n : Nat} {v1 : Int32} {v2 : Int32} {r : (Int32 × Mem)}  (h : f_X8_proof I v1 v2 = some r) (E : EndR X cX8_proof RX8 3 (some .int) 4 n (some (.inl r.1)) r.2 P O D Q) : Here X cX8_proof RX8 3 (some .int) 4 n 0 [some (.inr (.inr (8, 0, 0))), some (.inl v1), some (.inl v2)] [] I P O D n Q := by
  unfold f_X8_proof at h
  refine h_aload_n dX8_proof_0 rfl ?_
  refine h_iconst (0 : Int32) dX8_proof_1 k_iconst_0 ?_
  obtain ⟨I1', e1, h⟩ := bnd_some h
  refine p_X8_150  dX8_proof_2 ?_
  refine h_nmI e1 ?_
  refine h_aload_n dX8_proof_5 rfl ?_
  refine h_iload_n dX8_proof_6 rfl ?_
  obtain ⟨y1, hh1, h⟩ := obd_some h
  refine h_cVi [.inl v1] (m_X8_isCase  hh1) cw_X8_424 dX8_proof_7 rfl ok_8 (by decide) rfl (Or.inr rfl) rfl ?_
  refine h_if_eq (tgt := 35) dX8_proof_10 (by decide) (fun q1 => ?_) (fun q1 => ?_)
  · rw [if_pos q1] at h
    exact h_mask [true, false, false] (b_X8_proof_35 X Q  h E)
  · rw [if_neg q1] at h
    refine h_aload_n dX8_proof_13 rfl ?_
    refine h_iload_n dX8_proof_14 rfl ?_
    obtain ⟨y2, hh2, h⟩ := obd_some h
    refine h_cVi [.inl v2] (m_X8_isTown  hh2) cw_X8_413 dX8_proof_15 rfl ok_8 (by decide) rfl (Or.inr rfl) rfl ?_
    refine h_if_eq (tgt := 35) dX8_proof_18 (by decide) (fun q2 => ?_) (fun q2 => ?_)
    · rw [if_pos q2] at h
      exact h_mask [true, false, false] (b_X8_proof_35 X Q  h E)
    · rw [if_neg q2] at h
      refine h_aload_n dX8_proof_21 rfl ?_
      refine g_X8_55  dX8_proof_22 ?_
      refine h_bipush (9 : Int32) dX8_proof_25 k_bipush_9 ?_
      refine h_iload_n dX8_proof_27 rfl ?_
      refine h_imul dX8_proof_28 ?_
      refine h_iload_n dX8_proof_29 rfl ?_
      refine h_iadd dX8_proof_30 ?_
      obtain ⟨g1, h⟩ := gd_some h
      refine al_57  ((((9 : Int32) * v1) + v2).toNatClampNeg) rfl dX8_proof_31 g1 ?_
      refine h_goto (tgt := 40) dX8_proof_32 (by decide) ?_
      cases h
      exact h_iret dX8_proof_40 rfl E
theorem m_X8_proof {I : Mem} {P : PMem} {O : Nat → Int64} {D : Bool} {n : Nat} {v1 : Int32} {v2 : Int32} {r : (Int32 × Mem)}  (h : f_X8_proof I v1 v2 = some r) : MethR yX8_proof cX8_proof 3 (some .int) 4 [.inr (.inr (8, 0, 0)), .inl v1, .inl v2] I P O D n (some (.inl r.1)) r.2 P O D n := meth_R (Nat.le_refl _) (by decide) rfl (Nat.le_of_ble_eq_true rfl) rfl (fun X Q E => b_X8_proof X Q  h E)
def f_X8_said_33   (I : Mem) : Option (Int32 × Mem) :=
  (f_X8_fail I (1 : Int32)).bind fun y1 =>
  some (y1.1, y1.2)
theorem b_X8_said_33 (X : CX) (Q : State → Prop) {I : Mem} {P : PMem} {O : Nat → Int64} {D : Bool} {n : Nat} {r : (Int32 × Mem)}  (h : f_X8_said_33 I = some r) (E : EndR X cX8_said RX8 5 (some .int) 10 n (some (.inl r.1)) r.2 P O D Q) : Here X cX8_said RX8 5 (some .int) 10 n 33 [some (.inr (.inr (8, 0, 0))), none, none, none, none] [] I P O D n Q := by
  unfold f_X8_said_33 at h
  refine h_aload_n dX8_said_33 rfl ?_
  refine h_iconst (1 : Int32) dX8_said_34 k_iconst_1 ?_
  obtain ⟨y1, hh1, h⟩ := obd_some h
  refine h_cVi [.inl (1 : Int32)] (m_X8_fail  hh1) cw_X8_298 dX8_said_35 rfl ok_8 (by decide) rfl (Or.inr rfl) rfl ?_
  cases h
  exact h_iret dX8_said_38 rfl E
def f_X8_said   (I : Mem) (v1 : Int32) (v2 : Int32) (v3 : Int32) : Option (Int32 × Mem) :=
  bnd (upd4 I 8 0 0 2 (0 : Int32)) fun I1' =>
  (f_X8_isCase I1' v1).bind fun y1 =>
  if y1 = 0 then (f_X8_said_33 I1') else ((f_X8_isJudge I1' v2).bind fun y2 =>
  if y2 = 0 then (f_X8_said_33 I1') else ((f_X8_isIn I1' v3.toInt64 (0 : Int64) (3 : Int64)).bind fun y3 =>
  if y3 = 0 then (f_X8_said_33 I1') else ((f_X8_tellNow I1').bind fun y4 =>
  bnd (((5 : Int32) * v1) + v2) fun x1 =>
  if v3 = (3 : Int32) then (gd (inb x1 30) <|
  some ((y4.2 74 0 0 x1.toNatClampNeg), y4.2)) else (gd (inb x1 30) <|
  if (y4.2 71 0 0 x1.toNatClampNeg) = (-1 : Int32) then (some ((-1 : Int32), y4.2)) else (if v3 = 0 then (some ((y4.2 71 0 0 x1.toNatClampNeg), y4.2)) else (if v3 = (1 : Int32) then (some ((y4.2 72 0 0 x1.toNatClampNeg), y4.2)) else (some ((y4.2 73 0 0 x1.toNatClampNeg), y4.2))))))))
theorem b_X8_said (X : CX) (Q : State → Prop) {I : Mem} {P : PMem} {O : Nat → Int64} {D : Bool} {n : Nat} {v1 : Int32} {v2 : Int32} {v3 : Int32} {r : (Int32 × Mem)}  (h : f_X8_said I v1 v2 v3 = some r) (E : EndR X cX8_said RX8 5 (some .int) 10 n (some (.inl r.1)) r.2 P O D Q) : Here X cX8_said RX8 5 (some .int) 10 n 0 [some (.inr (.inr (8, 0, 0))), some (.inl v1), some (.inl v2), some (.inl v3), none] [] I P O D n Q := by
  unfold f_X8_said at h
  refine h_aload_n dX8_said_0 rfl ?_
  refine h_iconst (0 : Int32) dX8_said_1 k_iconst_0 ?_
  obtain ⟨I1', e1, h⟩ := bnd_some h
  refine p_X8_150  dX8_said_2 ?_
  refine h_nmI e1 ?_
  refine h_aload_n dX8_said_5 rfl ?_
  refine h_iload_n dX8_said_6 rfl ?_
  obtain ⟨y1, hh1, h⟩ := obd_some h
  refine h_cVi [.inl v1] (m_X8_isCase  hh1) cw_X8_424 dX8_said_7 rfl ok_8 (by decide) rfl (Or.inr rfl) rfl ?_
  refine h_if_eq (tgt := 33) dX8_said_10 (by decide) (fun q1 => ?_) (fun q1 => ?_)
  · rw [if_pos q1] at h
    exact h_mask [true, false, false, false, false] (b_X8_said_33 X Q  h E)
  · rw [if_neg q1] at h
    refine h_aload_n dX8_said_13 rfl ?_
    refine h_iload_n dX8_said_14 rfl ?_
    obtain ⟨y2, hh2, h⟩ := obd_some h
    refine h_cVi [.inl v2] (m_X8_isJudge  hh2) cw_X8_419 dX8_said_15 rfl ok_8 (by decide) rfl (Or.inr rfl) rfl ?_
    refine h_if_eq (tgt := 33) dX8_said_18 (by decide) (fun q2 => ?_) (fun q2 => ?_)
    · rw [if_pos q2] at h
      exact h_mask [true, false, false, false, false] (b_X8_said_33 X Q  h E)
    · rw [if_neg q2] at h
      refine h_iload_n dX8_said_21 rfl ?_
      refine h_i2l dX8_said_22 ?_
      refine h_lconst 0 dX8_said_23 rfl ?_
      refine h_ldc2 3 dX8_said_24 kl_X8_427 ?_
      obtain ⟨y3, hh3, h⟩ := obd_some h
      refine h_cSi [.inr (.inl v3.toInt64), .inr (.inl (0 : Int64)), .inr (.inl (3 : Int64))] (m_X8_isIn  hh3) cs_X8_153 dX8_said_27 rfl (by decide) rfl (Or.inr rfl) rfl ?_
      refine h_if_ne (tgt := 39) dX8_said_30 (by decide) (fun q3 => ?_) (fun q3 => ?_)
      · rw [if_neg q3] at h
        refine h_aload_n dX8_said_39 rfl ?_
        obtain ⟨y4, hh4, h⟩ := obd_some h
        refine h_cVi [] (m_X8_tellNow  hh4) cw_X8_410 dX8_said_40 rfl ok_8 (by decide) rfl (Or.inr rfl) rfl ?_
        refine h_pop dX8_said_43 (fun _ => rfl) ?_
        refine h_iconst (5 : Int32) dX8_said_44 k_iconst_5 ?_
        refine h_iload_n dX8_said_45 rfl ?_
        refine h_imul dX8_said_46 ?_
        refine h_iload_n dX8_said_47 rfl ?_
        refine h_iadd dX8_said_48 ?_
        obtain ⟨x1, e2, h⟩ := bnd_some h
        refine h_nmv e2 ?_
        refine h_istore dX8_said_49 (by decide) rfl ?_
        refine h_iload_n dX8_said_51 rfl ?_
        refine h_iconst (3 : Int32) dX8_said_52 k_iconst_3 ?_
        refine h_icmp_ne (tgt := 64) dX8_said_53 (by decide) (fun q4 => ?_) (fun q4 => ?_)
        · rw [if_neg q4] at h
          refine h_aload_n dX8_said_64 rfl ?_
          refine g_X8_106  dX8_said_65 ?_
          refine h_iload dX8_said_68 rfl ?_
          obtain ⟨g1, h⟩ := gd_some h
          refine al_71  x1.toNatClampNeg rfl dX8_said_70 g1 ?_
          refine h_iconst (-1 : Int32) dX8_said_71 k_iconst_m1 ?_
          refine h_icmp_ne (tgt := 79) dX8_said_72 (by decide) (fun q5 => ?_) (fun q5 => ?_)
          · rw [if_neg q5] at h
            refine h_iload_n dX8_said_79 rfl ?_
            refine h_if_ne (tgt := 93) dX8_said_80 (by decide) (fun q6 => ?_) (fun q6 => ?_)
            · rw [if_neg q6] at h
              refine h_iload_n dX8_said_93 rfl ?_
              refine h_iconst (1 : Int32) dX8_said_94 k_iconst_1 ?_
              refine h_icmp_ne (tgt := 108) dX8_said_95 (by decide) (fun q7 => ?_) (fun q7 => ?_)
              · rw [if_neg q7] at h
                refine h_aload_n dX8_said_108 rfl ?_
                refine g_X8_111  dX8_said_109 ?_
                refine h_iload dX8_said_112 rfl ?_
                refine al_73  x1.toNatClampNeg rfl dX8_said_114 g1 ?_
                cases h
                exact h_iret dX8_said_115 rfl E
              · rw [if_pos q7] at h
                refine h_aload_n dX8_said_98 rfl ?_
                refine g_X8_108  dX8_said_99 ?_
                refine h_iload dX8_said_102 rfl ?_
                refine al_72  x1.toNatClampNeg rfl dX8_said_104 g1 ?_
                refine h_goto (tgt := 115) dX8_said_105 (by decide) ?_
                cases h
                exact h_iret dX8_said_115 rfl E
            · rw [if_pos q6] at h
              refine h_aload_n dX8_said_83 rfl ?_
              refine g_X8_106  dX8_said_84 ?_
              refine h_iload dX8_said_87 rfl ?_
              refine al_71  x1.toNatClampNeg rfl dX8_said_89 g1 ?_
              refine h_goto (tgt := 115) dX8_said_90 (by decide) ?_
              cases h
              exact h_iret dX8_said_115 rfl E
          · rw [if_pos q5] at h
            refine h_iconst (-1 : Int32) dX8_said_75 k_iconst_m1 ?_
            refine h_goto (tgt := 115) dX8_said_76 (by decide) ?_
            cases h
            exact h_iret dX8_said_115 rfl E
        · rw [if_pos q4] at h
          refine h_aload_n dX8_said_56 rfl ?_
          refine g_X8_114  dX8_said_57 ?_
          refine h_iload dX8_said_60 rfl ?_
          obtain ⟨g2, h⟩ := gd_some h
          refine al_74  x1.toNatClampNeg rfl dX8_said_62 g2 ?_
          cases h
          exact h_iret dX8_said_63 rfl E
      · rw [if_pos q3] at h
        exact h_mask [true, false, false, false, false] (b_X8_said_33 X Q  h E)
theorem m_X8_said {I : Mem} {P : PMem} {O : Nat → Int64} {D : Bool} {n : Nat} {v1 : Int32} {v2 : Int32} {v3 : Int32} {r : (Int32 × Mem)}  (h : f_X8_said I v1 v2 v3 = some r) : MethR yX8_said cX8_said 5 (some .int) 10 [.inr (.inr (8, 0, 0)), .inl v1, .inl v2, .inl v3] I P O D n (some (.inl r.1)) r.2 P O D n := meth_R (Nat.le_refl _) (by decide) rfl (Nat.le_of_ble_eq_true rfl) rfl (fun X Q E => b_X8_said X Q  h E)
def f_X8_met_21   (I : Mem) : Option (Int32 × Mem) :=
  (f_X8_fail I (1 : Int32)).bind fun y1 =>
  some (y1.1, y1.2)
theorem b_X8_met_21 (X : CX) (Q : State → Prop) {I : Mem} {P : PMem} {O : Nat → Int64} {D : Bool} {n : Nat} {r : (Int32 × Mem)}  (h : f_X8_met_21 I = some r) (E : EndR X cX8_met RX8 3 (some .int) 10 n (some (.inl r.1)) r.2 P O D Q) : Here X cX8_met RX8 3 (some .int) 10 n 21 [some (.inr (.inr (8, 0, 0))), none, none] [] I P O D n Q := by
  unfold f_X8_met_21 at h
  refine h_aload_n dX8_met_21 rfl ?_
  refine h_iconst (1 : Int32) dX8_met_22 k_iconst_1 ?_
  obtain ⟨y1, hh1, h⟩ := obd_some h
  refine h_cVi [.inl (1 : Int32)] (m_X8_fail  hh1) cw_X8_298 dX8_met_23 rfl ok_8 (by decide) rfl (Or.inr rfl) rfl ?_
  cases h
  exact h_iret dX8_met_26 rfl E
def f_X8_met   (I : Mem) (v1 : Int32) (v2 : Int32) : Option (Int32 × Mem) :=
  bnd (upd4 I 8 0 0 2 (0 : Int32)) fun I1' =>
  (f_X8_isJudge I1' v1).bind fun y1 =>
  if y1 = 0 then (f_X8_met_21 I1') else ((f_X8_isJudge I1' v2).bind fun y2 =>
  if y2 = 0 then (f_X8_met_21 I1') else (if v1 = v2 then ((f_X8_fail I1' (2 : Int32)).bind fun y5 =>
  some (y5.1, y5.2)) else ((f_X8_tellNow I1').bind fun y3 =>
  gd (inb (((5 : Int32) * v1) + v2) 25) <|
  (f_X8_orNone y3.2 (y3.2 70 0 0 ((((5 : Int32) * v1) + v2).toNatClampNeg))).bind fun y4 =>
  some (y4, y3.2))))
theorem b_X8_met (X : CX) (Q : State → Prop) {I : Mem} {P : PMem} {O : Nat → Int64} {D : Bool} {n : Nat} {v1 : Int32} {v2 : Int32} {r : (Int32 × Mem)}  (h : f_X8_met I v1 v2 = some r) (E : EndR X cX8_met RX8 3 (some .int) 10 n (some (.inl r.1)) r.2 P O D Q) : Here X cX8_met RX8 3 (some .int) 10 n 0 [some (.inr (.inr (8, 0, 0))), some (.inl v1), some (.inl v2)] [] I P O D n Q := by
  unfold f_X8_met at h
  refine h_aload_n dX8_met_0 rfl ?_
  refine h_iconst (0 : Int32) dX8_met_1 k_iconst_0 ?_
  obtain ⟨I1', e1, h⟩ := bnd_some h
  refine p_X8_150  dX8_met_2 ?_
  refine h_nmI e1 ?_
  refine h_aload_n dX8_met_5 rfl ?_
  refine h_iload_n dX8_met_6 rfl ?_
  obtain ⟨y1, hh1, h⟩ := obd_some h
  refine h_cVi [.inl v1] (m_X8_isJudge  hh1) cw_X8_419 dX8_met_7 rfl ok_8 (by decide) rfl (Or.inr rfl) rfl ?_
  refine h_if_eq (tgt := 21) dX8_met_10 (by decide) (fun q1 => ?_) (fun q1 => ?_)
  · rw [if_pos q1] at h
    exact h_mask [true, false, false] (b_X8_met_21 X Q  h E)
  · rw [if_neg q1] at h
    refine h_aload_n dX8_met_13 rfl ?_
    refine h_iload_n dX8_met_14 rfl ?_
    obtain ⟨y2, hh2, h⟩ := obd_some h
    refine h_cVi [.inl v2] (m_X8_isJudge  hh2) cw_X8_419 dX8_met_15 rfl ok_8 (by decide) rfl (Or.inr rfl) rfl ?_
    refine h_if_ne (tgt := 27) dX8_met_18 (by decide) (fun q2 => ?_) (fun q2 => ?_)
    · rw [if_neg q2] at h
      refine h_iload_n dX8_met_27 rfl ?_
      refine h_iload_n dX8_met_28 rfl ?_
      refine h_icmp_ne (tgt := 38) dX8_met_29 (by decide) (fun q3 => ?_) (fun q3 => ?_)
      · rw [if_neg q3] at h
        refine h_aload_n dX8_met_38 rfl ?_
        obtain ⟨y3, hh3, h⟩ := obd_some h
        refine h_cVi [] (m_X8_tellNow  hh3) cw_X8_410 dX8_met_39 rfl ok_8 (by decide) rfl (Or.inr rfl) rfl ?_
        refine h_pop dX8_met_42 (fun _ => rfl) ?_
        refine h_aload_n dX8_met_43 rfl ?_
        refine g_X8_97  dX8_met_44 ?_
        refine h_iconst (5 : Int32) dX8_met_47 k_iconst_5 ?_
        refine h_iload_n dX8_met_48 rfl ?_
        refine h_imul dX8_met_49 ?_
        refine h_iload_n dX8_met_50 rfl ?_
        refine h_iadd dX8_met_51 ?_
        obtain ⟨g1, h⟩ := gd_some h
        refine al_70  ((((5 : Int32) * v1) + v2).toNatClampNeg) rfl dX8_met_52 g1 ?_
        obtain ⟨y4, hh4, h⟩ := obd_some h
        refine h_cSi [.inl (y3.2 70 0 0 ((((5 : Int32) * v1) + v2).toNatClampNeg))] (m_X8_orNone  hh4) cs_X8_416 dX8_met_53 rfl (by decide) rfl (Or.inr rfl) rfl ?_
        cases h
        exact h_iret dX8_met_56 rfl E
      · rw [if_pos q3] at h
        refine h_aload_n dX8_met_32 rfl ?_
        refine h_iconst (2 : Int32) dX8_met_33 k_iconst_2 ?_
        obtain ⟨y5, hh5, h⟩ := obd_some h
        refine h_cVi [.inl (2 : Int32)] (m_X8_fail  hh5) cw_X8_298 dX8_met_34 rfl ok_8 (by decide) rfl (Or.inr rfl) rfl ?_
        cases h
        exact h_iret dX8_met_37 rfl E
    · rw [if_pos q2] at h
      exact h_mask [true, false, false] (b_X8_met_21 X Q  h E)
theorem m_X8_met {I : Mem} {P : PMem} {O : Nat → Int64} {D : Bool} {n : Nat} {v1 : Int32} {v2 : Int32} {r : (Int32 × Mem)}  (h : f_X8_met I v1 v2 = some r) : MethR yX8_met cX8_met 3 (some .int) 10 [.inr (.inr (8, 0, 0)), .inl v1, .inl v2] I P O D n (some (.inl r.1)) r.2 P O D n := meth_R (Nat.le_refl _) (by decide) rfl (Nat.le_of_ble_eq_true rfl) rfl (fun X Q E => b_X8_met X Q  h E)
def f_X8_guilty_22   (I : Mem) : Option (Int32 × Mem) :=
  (f_X8_fail I (1 : Int32)).bind fun y1 =>
  some (y1.1, y1.2)
theorem b_X8_guilty_22 (X : CX) (Q : State → Prop) {I : Mem} {P : PMem} {O : Nat → Int64} {D : Bool} {n : Nat} {r : (Int32 × Mem)}  (h : f_X8_guilty_22 I = some r) (E : EndR X cX8_guilty RX8 3 (some .int) 10 n (some (.inl r.1)) r.2 P O D Q) : Here X cX8_guilty RX8 3 (some .int) 10 n 22 [some (.inr (.inr (8, 0, 0))), none, none] [] I P O D n Q := by
  unfold f_X8_guilty_22 at h
  refine h_aload_n dX8_guilty_22 rfl ?_
  refine h_iconst (1 : Int32) dX8_guilty_23 k_iconst_1 ?_
  obtain ⟨y1, hh1, h⟩ := obd_some h
  refine h_cVi [.inl (1 : Int32)] (m_X8_fail  hh1) cw_X8_298 dX8_guilty_24 rfl ok_8 (by decide) rfl (Or.inr rfl) rfl ?_
  cases h
  exact h_iret dX8_guilty_27 rfl E
def f_X8_guilty   (I : Mem) (v1 : Int32) (v2 : Int32) : Option (Int32 × Mem) :=
  bnd (upd4 I 8 0 0 2 (0 : Int32)) fun I1' =>
  (f_X8_isCase I1' v1).bind fun y1 =>
  if y1 = 0 then (f_X8_guilty_22 I1') else (if v2 < 0 then (f_X8_guilty_22 I1') else (if v2 ≤ (1 : Int32) then ((f_X8_tellNow I1').bind fun y2 =>
  if v2 = 0 then (gd (inb v1 6) <|
  (f_X8_orNone y2.2 (y2.2 75 0 0 v1.toNatClampNeg)).bind fun y3 =>
  some (y3, y2.2)) else (gd (inb v1 6) <|
  some ((y2.2 76 0 0 v1.toNatClampNeg), y2.2))) else (f_X8_guilty_22 I1')))
theorem b_X8_guilty (X : CX) (Q : State → Prop) {I : Mem} {P : PMem} {O : Nat → Int64} {D : Bool} {n : Nat} {v1 : Int32} {v2 : Int32} {r : (Int32 × Mem)}  (h : f_X8_guilty I v1 v2 = some r) (E : EndR X cX8_guilty RX8 3 (some .int) 10 n (some (.inl r.1)) r.2 P O D Q) : Here X cX8_guilty RX8 3 (some .int) 10 n 0 [some (.inr (.inr (8, 0, 0))), some (.inl v1), some (.inl v2)] [] I P O D n Q := by
  unfold f_X8_guilty at h
  refine h_aload_n dX8_guilty_0 rfl ?_
  refine h_iconst (0 : Int32) dX8_guilty_1 k_iconst_0 ?_
  obtain ⟨I1', e1, h⟩ := bnd_some h
  refine p_X8_150  dX8_guilty_2 ?_
  refine h_nmI e1 ?_
  refine h_aload_n dX8_guilty_5 rfl ?_
  refine h_iload_n dX8_guilty_6 rfl ?_
  obtain ⟨y1, hh1, h⟩ := obd_some h
  refine h_cVi [.inl v1] (m_X8_isCase  hh1) cw_X8_424 dX8_guilty_7 rfl ok_8 (by decide) rfl (Or.inr rfl) rfl ?_
  refine h_if_eq (tgt := 22) dX8_guilty_10 (by decide) (fun q1 => ?_) (fun q1 => ?_)
  · rw [if_pos q1] at h
    exact h_mask [true, false, false] (b_X8_guilty_22 X Q  h E)
  · rw [if_neg q1] at h
    refine h_iload_n dX8_guilty_13 rfl ?_
    refine h_if_lt (tgt := 22) dX8_guilty_14 (by decide) (fun q2 => ?_) (fun q2 => ?_)
    · rw [if_pos q2] at h
      exact h_mask [true, false, false] (b_X8_guilty_22 X Q  h E)
    · rw [if_neg q2] at h
      refine h_iload_n dX8_guilty_17 rfl ?_
      refine h_iconst (1 : Int32) dX8_guilty_18 k_iconst_1 ?_
      refine h_icmp_le (tgt := 28) dX8_guilty_19 (by decide) (fun q3 => ?_) (fun q3 => ?_)
      · rw [if_pos q3] at h
        refine h_aload_n dX8_guilty_28 rfl ?_
        obtain ⟨y2, hh2, h⟩ := obd_some h
        refine h_cVi [] (m_X8_tellNow  hh2) cw_X8_410 dX8_guilty_29 rfl ok_8 (by decide) rfl (Or.inr rfl) rfl ?_
        refine h_pop dX8_guilty_32 (fun _ => rfl) ?_
        refine h_iload_n dX8_guilty_33 rfl ?_
        refine h_if_ne (tgt := 49) dX8_guilty_34 (by decide) (fun q4 => ?_) (fun q4 => ?_)
        · rw [if_neg q4] at h
          refine h_aload_n dX8_guilty_49 rfl ?_
          refine g_X8_120  dX8_guilty_50 ?_
          refine h_iload_n dX8_guilty_53 rfl ?_
          obtain ⟨g1, h⟩ := gd_some h
          refine al_76  v1.toNatClampNeg rfl dX8_guilty_54 g1 ?_
          cases h
          exact h_iret dX8_guilty_55 rfl E
        · rw [if_pos q4] at h
          refine h_aload_n dX8_guilty_37 rfl ?_
          refine g_X8_117  dX8_guilty_38 ?_
          refine h_iload_n dX8_guilty_41 rfl ?_
          obtain ⟨g2, h⟩ := gd_some h
          refine al_75  v1.toNatClampNeg rfl dX8_guilty_42 g2 ?_
          obtain ⟨y3, hh3, h⟩ := obd_some h
          refine h_cSi [.inl (y2.2 75 0 0 v1.toNatClampNeg)] (m_X8_orNone  hh3) cs_X8_416 dX8_guilty_43 rfl (by decide) rfl (Or.inr rfl) rfl ?_
          refine h_goto (tgt := 55) dX8_guilty_46 (by decide) ?_
          cases h
          exact h_iret dX8_guilty_55 rfl E
      · rw [if_neg q3] at h
        exact h_mask [true, false, false] (b_X8_guilty_22 X Q  h E)
theorem m_X8_guilty {I : Mem} {P : PMem} {O : Nat → Int64} {D : Bool} {n : Nat} {v1 : Int32} {v2 : Int32} {r : (Int32 × Mem)}  (h : f_X8_guilty I v1 v2 = some r) : MethR yX8_guilty cX8_guilty 3 (some .int) 10 [.inr (.inr (8, 0, 0)), .inl v1, .inl v2] I P O D n (some (.inl r.1)) r.2 P O D n := meth_R (Nat.le_refl _) (by decide) rfl (Nat.le_of_ble_eq_true rfl) rfl (fun X Q E => b_X8_guilty X Q  h E)
def f_X8_news_42   : Nat → Mem → Int32 → Int32 → Int32 → Int32 → Option (Int32 × Mem)
  | 0, _, _, _, _, _ => none
  | fu + 1, I, v1, v2, v3, v4 =>
    if (I 50 0 0 4) ≤ v4 then ((f_X8_orNone I v3).bind fun y1 =>
    some (y1, I)) else ((f_X8_newsBy I v1 v4 v2).bind fun y2 =>
    bnd (jmin v3 y2) fun x1 =>
    (f_X8_news_42 fu) I v1 v2 x1 (v4 + (1 : Int32)))
theorem b_X8_news_42 (X : CX) (Q : State → Prop) {P : PMem} {O : Nat → Int64} {D : Bool} {n : Nat} {r : (Int32 × Mem)}  : ∀ (fu : Nat) {I : Mem} {v1 : Int32} {v2 : Int32} {v3 : Int32} {v4 : Int32}, f_X8_news_42 fu I v1 v2 v3 v4 = some r → EndR X cX8_news RX8 5 (some .int) 10 n (some (.inl r.1)) r.2 P O D Q → Here X cX8_news RX8 5 (some .int) 10 n 42 [some (.inr (.inr (8, 0, 0))), some (.inl v1), some (.inl v2), some (.inl v3), some (.inl v4)] [] I P O D n Q := by
  intro fu
  induction fu with
  | zero => intro I v1 v2 v3 v4 h E; cases h
  | succ fu ih =>
  intro I v1 v2 v3 v4 h E
  have H42 : ∀ (I : Mem) (v1 : Int32) (v2 : Int32) (v3 : Int32) (v4 : Int32), f_X8_news_42 fu I v1 v2 v3 v4 = some r → Here X cX8_news RX8 5 (some .int) 10 n 42 [some (.inr (.inr (8, 0, 0))), some (.inl v1), some (.inl v2), some (.inl v3), some (.inl v4)] [] I P O D n Q := fun _ _ _ _ _ b => ih b E
  simp only [f_X8_news_42] at h
  refine h_iload dX8_news_42 rfl ?_
  refine h_aload_n dX8_news_44 rfl ?_
  refine g_X8_34  dX8_news_45 ?_
  refine h_iconst (4 : Int32) dX8_news_48 k_iconst_4 ?_
  refine al_50  4 cl_4 dX8_news_49 rfl ?_
  refine h_icmp_ge (tgt := 72) dX8_news_50 (by decide) (fun q1 => ?_) (fun q1 => ?_)
  · rw [if_pos q1] at h
    refine h_iload_n dX8_news_72 rfl ?_
    obtain ⟨y1, hh1, h⟩ := obd_some h
    refine h_cSi [.inl v3] (m_X8_orNone  hh1) cs_X8_416 dX8_news_73 rfl (by decide) rfl (Or.inr rfl) rfl ?_
    cases h
    exact h_iret dX8_news_76 rfl E
  · rw [if_neg q1] at h
    refine h_iload_n dX8_news_53 rfl ?_
    refine h_aload_n dX8_news_54 rfl ?_
    refine h_iload_n dX8_news_55 rfl ?_
    refine h_iload dX8_news_56 rfl ?_
    refine h_iload_n dX8_news_58 rfl ?_
    obtain ⟨y2, hh2, h⟩ := obd_some h
    refine h_cVi [.inl v1, .inl v4, .inl v2] (m_X8_newsBy  hh2) cw_X8_372 dX8_news_59 rfl ok_8 (by decide) rfl (Or.inr rfl) rfl ?_
    refine h_min dX8_news_62 ml_X8_187 wm1_min wm2 wm3_min (by decide) rfl ?_
    obtain ⟨x1, e1, h⟩ := bnd_some h
    refine h_nmv e1 ?_
    refine h_istore_n dX8_news_65 (by decide) rfl ?_
    refine h_iinc (1 : Int32) dX8_news_66 rfl k_iinc_1 (by decide) rfl ?_
    refine h_goto (tgt := 42) dX8_news_69 (by decide) ?_
    exact (H42 _ _ _ _ _ h)
def f_X8_news_21   (I : Mem) : Option (Int32 × Mem) :=
  (f_X8_fail I (1 : Int32)).bind fun y1 =>
  some (y1.1, y1.2)
theorem b_X8_news_21 (X : CX) (Q : State → Prop) {I : Mem} {P : PMem} {O : Nat → Int64} {D : Bool} {n : Nat} {r : (Int32 × Mem)}  (h : f_X8_news_21 I = some r) (E : EndR X cX8_news RX8 5 (some .int) 10 n (some (.inl r.1)) r.2 P O D Q) : Here X cX8_news RX8 5 (some .int) 10 n 21 [some (.inr (.inr (8, 0, 0))), none, none, none, none] [] I P O D n Q := by
  unfold f_X8_news_21 at h
  refine h_aload_n dX8_news_21 rfl ?_
  refine h_iconst (1 : Int32) dX8_news_22 k_iconst_1 ?_
  obtain ⟨y1, hh1, h⟩ := obd_some h
  refine h_cVi [.inl (1 : Int32)] (m_X8_fail  hh1) cw_X8_298 dX8_news_23 rfl ok_8 (by decide) rfl (Or.inr rfl) rfl ?_
  cases h
  exact h_iret dX8_news_26 rfl E
def f_X8_news   (I : Mem) (v1 : Int32) (v2 : Int32) : Option (Int32 × Mem) :=
  bnd (upd4 I 8 0 0 2 (0 : Int32)) fun I1' =>
  (f_X8_isCase I1' v1).bind fun y1 =>
  if y1 = 0 then (f_X8_news_21 I1') else ((f_X8_isTown I1' v2).bind fun y2 =>
  if y2 = 0 then (f_X8_news_21 I1') else ((f_X8_tellNow I1').bind fun y3 =>
  (f_X8_newsByWord y3.2 v1 v2).bind fun y4 =>
  f_X8_news_42 FU y3.2 v1 v2 y4 (0 : Int32)))
theorem b_X8_news (X : CX) (Q : State → Prop) {I : Mem} {P : PMem} {O : Nat → Int64} {D : Bool} {n : Nat} {v1 : Int32} {v2 : Int32} {r : (Int32 × Mem)}  (h : f_X8_news I v1 v2 = some r) (E : EndR X cX8_news RX8 5 (some .int) 10 n (some (.inl r.1)) r.2 P O D Q) : Here X cX8_news RX8 5 (some .int) 10 n 0 [some (.inr (.inr (8, 0, 0))), some (.inl v1), some (.inl v2), none, none] [] I P O D n Q := by
  unfold f_X8_news at h
  refine h_aload_n dX8_news_0 rfl ?_
  refine h_iconst (0 : Int32) dX8_news_1 k_iconst_0 ?_
  obtain ⟨I1', e1, h⟩ := bnd_some h
  refine p_X8_150  dX8_news_2 ?_
  refine h_nmI e1 ?_
  refine h_aload_n dX8_news_5 rfl ?_
  refine h_iload_n dX8_news_6 rfl ?_
  obtain ⟨y1, hh1, h⟩ := obd_some h
  refine h_cVi [.inl v1] (m_X8_isCase  hh1) cw_X8_424 dX8_news_7 rfl ok_8 (by decide) rfl (Or.inr rfl) rfl ?_
  refine h_if_eq (tgt := 21) dX8_news_10 (by decide) (fun q1 => ?_) (fun q1 => ?_)
  · rw [if_pos q1] at h
    exact h_mask [true, false, false, false, false] (b_X8_news_21 X Q  h E)
  · rw [if_neg q1] at h
    refine h_aload_n dX8_news_13 rfl ?_
    refine h_iload_n dX8_news_14 rfl ?_
    obtain ⟨y2, hh2, h⟩ := obd_some h
    refine h_cVi [.inl v2] (m_X8_isTown  hh2) cw_X8_413 dX8_news_15 rfl ok_8 (by decide) rfl (Or.inr rfl) rfl ?_
    refine h_if_ne (tgt := 27) dX8_news_18 (by decide) (fun q2 => ?_) (fun q2 => ?_)
    · rw [if_neg q2] at h
      refine h_aload_n dX8_news_27 rfl ?_
      obtain ⟨y3, hh3, h⟩ := obd_some h
      refine h_cVi [] (m_X8_tellNow  hh3) cw_X8_410 dX8_news_28 rfl ok_8 (by decide) rfl (Or.inr rfl) rfl ?_
      refine h_pop dX8_news_31 (fun _ => rfl) ?_
      refine h_aload_n dX8_news_32 rfl ?_
      refine h_iload_n dX8_news_33 rfl ?_
      refine h_iload_n dX8_news_34 rfl ?_
      obtain ⟨y4, hh4, h⟩ := obd_some h
      refine h_cVi [.inl v1, .inl v2] (m_X8_newsByWord  hh4) cw_X8_369 dX8_news_35 rfl ok_8 (by decide) rfl (Or.inr rfl) rfl ?_
      refine h_istore_n dX8_news_38 (by decide) rfl ?_
      refine h_iconst (0 : Int32) dX8_news_39 k_iconst_0 ?_
      refine h_istore dX8_news_40 (by decide) rfl ?_
      exact (b_X8_news_42 X Q FU  h E)
    · rw [if_pos q2] at h
      exact h_mask [true, false, false, false, false] (b_X8_news_21 X Q  h E)
theorem m_X8_news {I : Mem} {P : PMem} {O : Nat → Int64} {D : Bool} {n : Nat} {v1 : Int32} {v2 : Int32} {r : (Int32 × Mem)}  (h : f_X8_news I v1 v2 = some r) : MethR yX8_news cX8_news 5 (some .int) 10 [.inr (.inr (8, 0, 0)), .inl v1, .inl v2] I P O D n (some (.inl r.1)) r.2 P O D n := meth_R (Nat.le_refl _) (by decide) rfl (Nat.le_of_ble_eq_true rfl) rfl (fun X Q E => b_X8_news X Q  h E)
def f_X8_refuse   (I : Mem) (v1 : Int32) : Option (Int32 × Mem) :=
  gd (inb v1 3) <|
  bnd (upd4 I 59 0 0 v1.toNatClampNeg ((I 59 0 0 v1.toNatClampNeg) + (1 : Int32))) fun I1' =>
  some ((-1 : Int32), I1')
theorem b_X8_refuse (X : CX) (Q : State → Prop) {I : Mem} {P : PMem} {O : Nat → Int64} {D : Bool} {n : Nat} {v1 : Int32} {r : (Int32 × Mem)}  (h : f_X8_refuse I v1 = some r) (E : EndR X cX8_refuse RX8 2 (some .int) 2 n (some (.inl r.1)) r.2 P O D Q) : Here X cX8_refuse RX8 2 (some .int) 2 n 0 [some (.inr (.inr (8, 0, 0))), some (.inl v1)] [] I P O D n Q := by
  unfold f_X8_refuse at h
  refine h_aload_n dX8_refuse_0 rfl ?_
  refine g_X8_60  dX8_refuse_1 ?_
  refine h_iload_n dX8_refuse_4 rfl ?_
  refine h_dup2 dX8_refuse_5 (fun _ => rfl) (fun _ => rfl) ?_
  obtain ⟨g1, h⟩ := gd_some h
  refine al_59  v1.toNatClampNeg rfl dX8_refuse_6 g1 ?_
  refine h_iconst (1 : Int32) dX8_refuse_7 k_iconst_1 ?_
  refine h_iadd dX8_refuse_8 ?_
  obtain ⟨I1', e1, h⟩ := bnd_some h
  refine as_59  v1.toNatClampNeg rfl dX8_refuse_9 g1 ?_
  refine h_nmI e1 ?_
  refine h_iconst (-1 : Int32) dX8_refuse_10 k_iconst_m1 ?_
  cases h
  exact h_iret dX8_refuse_11 rfl E
theorem m_X8_refuse {I : Mem} {P : PMem} {O : Nat → Int64} {D : Bool} {n : Nat} {v1 : Int32} {r : (Int32 × Mem)}  (h : f_X8_refuse I v1 = some r) : MethR yX8_refuse cX8_refuse 2 (some .int) 2 [.inr (.inr (8, 0, 0)), .inl v1] I P O D n (some (.inl r.1)) r.2 P O D n := meth_R (Nat.le_refl _) (by decide) rfl (Nat.le_of_ble_eq_true rfl) rfl (fun X Q E => b_X8_refuse X Q  h E)
def f_X8_keep_52   (I : Mem) : Option (Mem) :=
  (f_X8_pack 65 0 0 I ((45 : Int32) * (I 8 0 0 33))).bind fun y1 =>
  bnd (upd4 y1 8 0 0 33 ((y1 8 0 0 33) + (1 : Int32))) fun I1' =>
  some I1'
theorem b_X8_keep_52 (X : CX) (Q : State → Prop) {I : Mem} {P : PMem} {O : Nat → Int64} {D : Bool} {n : Nat} {r : (Mem)}  (h : f_X8_keep_52 I = some r) (E : EndR X cX8_keep RX8 2 (none) 3 n none r P O D Q) : Here X cX8_keep RX8 2 (none) 3 n 52 [some (.inr (.inr (8, 0, 0))), none] [] I P O D n Q := by
  unfold f_X8_keep_52 at h
  refine h_aload_n dX8_keep_52 rfl ?_
  refine h_aload_n dX8_keep_53 rfl ?_
  refine g_X8_82  dX8_keep_54 ?_
  refine h_bipush (45 : Int32) dX8_keep_57 k_bipush_45 ?_
  refine h_aload_n dX8_keep_59 rfl ?_
  refine g_X8_323  dX8_keep_60 ?_
  refine h_imul dX8_keep_63 ?_
  obtain ⟨y1, hh1, h⟩ := obd_some h
  refine h_cVv [.inr (.inr (65, 0, 0)), .inl ((45 : Int32) * (I 8 0 0 33))] (m_X8_pack rfl hh1) cw_X8_429 dX8_keep_64 rfl ok_8 (by decide) rfl (Or.inr rfl) rfl ?_
  refine h_aload_n dX8_keep_67 rfl ?_
  refine h_dup dX8_keep_68 (fun _ => rfl) ?_
  refine g_X8_323  dX8_keep_69 ?_
  refine h_iconst (1 : Int32) dX8_keep_72 k_iconst_1 ?_
  refine h_iadd dX8_keep_73 ?_
  obtain ⟨I1', e1, h⟩ := bnd_some h
  refine p_X8_323  dX8_keep_74 ?_
  refine h_nmI e1 ?_
  cases h
  exact h_vret dX8_keep_77 rfl E
def f_X8_keep_12   : Nat → Mem → Int32 → Option (Mem)
  | 0, _, _ => none
  | fu + 1, I, v1 =>
    if (1800 : Int32) ≤ v1 then (bnd (upd4 I 8 0 0 33 ((I 8 0 0 33) - (1 : Int32))) fun I1' =>
    f_X8_keep_52 I1') else (gd (inb v1 1800) <|
    gd (inb (v1 - (45 : Int32)) 1800) <|
    bnd (upd4 I 65 0 0 ((v1 - (45 : Int32)).toNatClampNeg) (I 65 0 0 v1.toNatClampNeg)) fun I2' =>
    (f_X8_keep_12 fu) I2' (v1 + (1 : Int32)))
theorem b_X8_keep_12 (X : CX) (Q : State → Prop) {P : PMem} {O : Nat → Int64} {D : Bool} {n : Nat} {r : (Mem)}  : ∀ (fu : Nat) {I : Mem} {v1 : Int32}, f_X8_keep_12 fu I v1 = some r → EndR X cX8_keep RX8 2 (none) 3 n none r P O D Q → Here X cX8_keep RX8 2 (none) 3 n 12 [some (.inr (.inr (8, 0, 0))), some (.inl v1)] [] I P O D n Q := by
  intro fu
  induction fu with
  | zero => intro I v1 h E; cases h
  | succ fu ih =>
  intro I v1 h E
  have H12 : ∀ (I : Mem) (v1 : Int32), f_X8_keep_12 fu I v1 = some r → Here X cX8_keep RX8 2 (none) 3 n 12 [some (.inr (.inr (8, 0, 0))), some (.inl v1)] [] I P O D n Q := fun _ _ b => ih b E
  simp only [f_X8_keep_12] at h
  refine h_iload_n dX8_keep_12 rfl ?_
  refine h_aload_n dX8_keep_13 rfl ?_
  refine g_X8_82  dX8_keep_14 ?_
  refine h_aleni (1800 : Int32) rfl dX8_keep_17 ok_65 (by decide) ?_
  refine h_icmp_ge (tgt := 42) dX8_keep_18 (by decide) (fun q1 => ?_) (fun q1 => ?_)
  · rw [if_pos q1] at h
    refine h_aload_n dX8_keep_42 rfl ?_
    refine h_dup dX8_keep_43 (fun _ => rfl) ?_
    refine g_X8_323  dX8_keep_44 ?_
    refine h_iconst (1 : Int32) dX8_keep_47 k_iconst_1 ?_
    refine h_isub dX8_keep_48 ?_
    obtain ⟨I1', e1, h⟩ := bnd_some h
    refine p_X8_323  dX8_keep_49 ?_
    refine h_nmI e1 ?_
    exact h_mask [true, false] (b_X8_keep_52 X Q  h E)
  · rw [if_neg q1] at h
    refine h_aload_n dX8_keep_21 rfl ?_
    refine g_X8_82  dX8_keep_22 ?_
    refine h_iload_n dX8_keep_25 rfl ?_
    refine h_bipush (45 : Int32) dX8_keep_26 k_bipush_45 ?_
    refine h_isub dX8_keep_28 ?_
    refine h_aload_n dX8_keep_29 rfl ?_
    refine g_X8_82  dX8_keep_30 ?_
    refine h_iload_n dX8_keep_33 rfl ?_
    obtain ⟨g1, h⟩ := gd_some h
    refine al_65  v1.toNatClampNeg rfl dX8_keep_34 g1 ?_
    obtain ⟨g2, h⟩ := gd_some h
    obtain ⟨I2', e2, h⟩ := bnd_some h
    refine as_65  ((v1 - (45 : Int32)).toNatClampNeg) rfl dX8_keep_35 g2 ?_
    refine h_nmI e2 ?_
    refine h_iinc (1 : Int32) dX8_keep_36 rfl k_iinc_1 (by decide) rfl ?_
    refine h_goto (tgt := 12) dX8_keep_39 (by decide) ?_
    exact (H12 _ _ h)
def f_X8_keep   (I : Mem) : Option (Mem) :=
  if (I 8 0 0 33) = (40 : Int32) then (f_X8_keep_12 FU I (45 : Int32)) else (f_X8_keep_52 I)
theorem b_X8_keep (X : CX) (Q : State → Prop) {I : Mem} {P : PMem} {O : Nat → Int64} {D : Bool} {n : Nat} {r : (Mem)}  (h : f_X8_keep I = some r) (E : EndR X cX8_keep RX8 2 (none) 3 n none r P O D Q) : Here X cX8_keep RX8 2 (none) 3 n 0 [some (.inr (.inr (8, 0, 0))), none] [] I P O D n Q := by
  unfold f_X8_keep at h
  refine h_aload_n dX8_keep_0 rfl ?_
  refine g_X8_323  dX8_keep_1 ?_
  refine h_bipush (40 : Int32) dX8_keep_4 k_bipush_40 ?_
  refine h_icmp_ne (tgt := 52) dX8_keep_6 (by decide) (fun q1 => ?_) (fun q1 => ?_)
  · rw [if_neg q1] at h
    exact (b_X8_keep_52 X Q  h E)
  · rw [if_pos q1] at h
    refine h_bipush (45 : Int32) dX8_keep_9 k_bipush_45 ?_
    refine h_istore_n dX8_keep_11 (by decide) rfl ?_
    exact (b_X8_keep_12 X Q FU  h E)
theorem m_X8_keep {I : Mem} {P : PMem} {O : Nat → Int64} {D : Bool} {n : Nat}  {r : (Mem)}  (h : f_X8_keep I = some r) : MethR yX8_keep cX8_keep 2 (none) 3 [.inr (.inr (8, 0, 0))] I P O D n none r P O D n := meth_R (Nat.le_refl _) (by decide) rfl (Nat.le_of_ble_eq_true rfl) rfl (fun X Q E => b_X8_keep X Q  h E)
def f_X8_start   (I : Mem) (v1 : Int32) (v2 : Int32) : Option (Int32 × Mem) :=
  bnd (upd4 I 8 0 0 2 (0 : Int32)) fun I1' =>
  (f_X8_isJudge I1' v1).bind fun y1 =>
  if y1 = 0 then ((f_X8_fail I1' (1 : Int32)).bind fun y5 =>
  some (y5.1, y5.2)) else ((f_X8_isIn I1' v2.toInt64 (0 : Int64) (60 : Int64)).bind fun y2 =>
  if y2 = 0 then ((f_X8_refuse I1' (1 : Int32)).bind fun y4 =>
  some (y4.1, y4.2)) else ((f_X8_keep I1').bind fun y3 =>
  gd (inb v1 10) <|
  bnd (y3 53 0 0 v1.toNatClampNeg) fun x1 =>
  bnd (upd4 y3 53 0 0 v1.toNatClampNeg v2) fun I2' =>
  some (x1, I2')))
theorem b_X8_start (X : CX) (Q : State → Prop) {I : Mem} {P : PMem} {O : Nat → Int64} {D : Bool} {n : Nat} {v1 : Int32} {v2 : Int32} {r : (Int32 × Mem)}  (h : f_X8_start I v1 v2 = some r) (E : EndR X cX8_start RX8 4 (some .int) 4 n (some (.inl r.1)) r.2 P O D Q) : Here X cX8_start RX8 4 (some .int) 4 n 0 [some (.inr (.inr (8, 0, 0))), some (.inl v1), some (.inl v2), none] [] I P O D n Q := by
  unfold f_X8_start at h
  refine h_aload_n dX8_start_0 rfl ?_
  refine h_iconst (0 : Int32) dX8_start_1 k_iconst_0 ?_
  obtain ⟨I1', e1, h⟩ := bnd_some h
  refine p_X8_150  dX8_start_2 ?_
  refine h_nmI e1 ?_
  refine h_aload_n dX8_start_5 rfl ?_
  refine h_iload_n dX8_start_6 rfl ?_
  obtain ⟨y1, hh1, h⟩ := obd_some h
  refine h_cVi [.inl v1] (m_X8_isJudge  hh1) cw_X8_419 dX8_start_7 rfl ok_8 (by decide) rfl (Or.inr rfl) rfl ?_
  refine h_if_ne (tgt := 19) dX8_start_10 (by decide) (fun q1 => ?_) (fun q1 => ?_)
  · rw [if_neg q1] at h
    refine h_iload_n dX8_start_19 rfl ?_
    refine h_i2l dX8_start_20 ?_
    refine h_lconst 0 dX8_start_21 rfl ?_
    refine h_ldc2 60 dX8_start_22 kl_X8_433 ?_
    obtain ⟨y2, hh2, h⟩ := obd_some h
    refine h_cSi [.inr (.inl v2.toInt64), .inr (.inl (0 : Int64)), .inr (.inl (60 : Int64))] (m_X8_isIn  hh2) cs_X8_153 dX8_start_25 rfl (by decide) rfl (Or.inr rfl) rfl ?_
    refine h_if_ne (tgt := 37) dX8_start_28 (by decide) (fun q2 => ?_) (fun q2 => ?_)
    · rw [if_neg q2] at h
      refine h_aload_n dX8_start_37 rfl ?_
      obtain ⟨y3, hh3, h⟩ := obd_some h
      refine h_cVv [] (m_X8_keep  hh3) cw_X8_438 dX8_start_38 rfl ok_8 (by decide) rfl (Or.inr rfl) rfl ?_
      refine h_aload_n dX8_start_41 rfl ?_
      refine g_X8_44  dX8_start_42 ?_
      refine h_iload_n dX8_start_45 rfl ?_
      obtain ⟨g1, h⟩ := gd_some h
      refine al_53  v1.toNatClampNeg rfl dX8_start_46 g1 ?_
      obtain ⟨x1, e2, h⟩ := bnd_some h
      refine h_nmv e2 ?_
      refine h_istore_n dX8_start_47 (by decide) rfl ?_
      refine h_aload_n dX8_start_48 rfl ?_
      refine g_X8_44  dX8_start_49 ?_
      refine h_iload_n dX8_start_52 rfl ?_
      refine h_iload_n dX8_start_53 rfl ?_
      obtain ⟨I2', e3, h⟩ := bnd_some h
      refine as_53  v1.toNatClampNeg rfl dX8_start_54 g1 ?_
      refine h_nmI e3 ?_
      refine h_iload_n dX8_start_55 rfl ?_
      cases h
      exact h_iret dX8_start_56 rfl E
    · rw [if_pos q2] at h
      refine h_aload_n dX8_start_31 rfl ?_
      refine h_iconst (1 : Int32) dX8_start_32 k_iconst_1 ?_
      obtain ⟨y4, hh4, h⟩ := obd_some h
      refine h_cVi [.inl (1 : Int32)] (m_X8_refuse  hh4) cw_X8_435 dX8_start_33 rfl ok_8 (by decide) rfl (Or.inr rfl) rfl ?_
      cases h
      exact h_iret dX8_start_36 rfl E
  · rw [if_pos q1] at h
    refine h_aload_n dX8_start_13 rfl ?_
    refine h_iconst (1 : Int32) dX8_start_14 k_iconst_1 ?_
    obtain ⟨y5, hh5, h⟩ := obd_some h
    refine h_cVi [.inl (1 : Int32)] (m_X8_fail  hh5) cw_X8_298 dX8_start_15 rfl ok_8 (by decide) rfl (Or.inr rfl) rfl ?_
    cases h
    exact h_iret dX8_start_18 rfl E
theorem m_X8_start {I : Mem} {P : PMem} {O : Nat → Int64} {D : Bool} {n : Nat} {v1 : Int32} {v2 : Int32} {r : (Int32 × Mem)}  (h : f_X8_start I v1 v2 = some r) : MethR yX8_start cX8_start 4 (some .int) 4 [.inr (.inr (8, 0, 0)), .inl v1, .inl v2] I P O D n (some (.inl r.1)) r.2 P O D n := meth_R (Nat.le_refl _) (by decide) rfl (Nat.le_of_ble_eq_true rfl) rfl (fun X Q E => b_X8_start X Q  h E)
def f_X8_inn_37   (I : Mem) (v1 : Int32) (s0 : Int32) (s1 : Int32) : Option (Int32 × Mem) :=
  if s1 = s0 then (bnd (upd4 I 59 0 0 1 ((I 59 0 0 1) + (1 : Int32))) fun I2' =>
  some ((0 : Int32), I2')) else ((f_X8_keep I).bind fun y1 =>
  bnd (upd4 y1 8 0 0 29 ((y1 8 0 0 29) ^^^ (jshl (1 : Int32) v1))) fun I1' =>
  some ((1 : Int32), I1'))
theorem b_X8_inn_37 (X : CX) (Q : State → Prop) {I : Mem} {P : PMem} {O : Nat → Int64} {D : Bool} {n : Nat} {v1 : Int32} {s0 : Int32} {s1 : Int32} {r : (Int32 × Mem)}  (h : f_X8_inn_37 I v1 s0 s1 = some r) (E : EndR X cX8_inn RX8 3 (some .boolean) 4 n (some (.inl r.1)) r.2 P O D Q) : Here X cX8_inn RX8 3 (some .boolean) 4 n 37 [some (.inr (.inr (8, 0, 0))), some (.inl v1), none] [.inl s0, .inl s1] I P O D n Q := by
  unfold f_X8_inn_37 at h
  refine h_icmp_ne (tgt := 52) dX8_inn_37 (by decide) (fun q1 => ?_) (fun q1 => ?_)
  · rw [if_neg q1] at h
    refine h_aload_n dX8_inn_52 rfl ?_
    obtain ⟨y1, hh1, h⟩ := obd_some h
    refine h_cVv [] (m_X8_keep  hh1) cw_X8_438 dX8_inn_53 rfl ok_8 (by decide) rfl (Or.inr rfl) rfl ?_
    refine h_aload_n dX8_inn_56 rfl ?_
    refine h_dup dX8_inn_57 (fun _ => rfl) ?_
    refine g_X8_311  dX8_inn_58 ?_
    refine h_iconst (1 : Int32) dX8_inn_61 k_iconst_1 ?_
    refine h_iload_n dX8_inn_62 rfl ?_
    refine h_shl dX8_inn_63 ?_
    refine h_ixor dX8_inn_64 ?_
    obtain ⟨I1', e1, h⟩ := bnd_some h
    refine p_X8_311  dX8_inn_65 ?_
    refine h_nmI e1 ?_
    refine h_iconst (1 : Int32) dX8_inn_68 k_iconst_1 ?_
    cases h
    exact h_zret dX8_inn_69 rfl rfl E
  · rw [if_pos q1] at h
    refine h_aload_n dX8_inn_40 rfl ?_
    refine g_X8_60  dX8_inn_41 ?_
    refine h_iconst (1 : Int32) dX8_inn_44 k_iconst_1 ?_
    refine h_dup2 dX8_inn_45 (fun _ => rfl) (fun _ => rfl) ?_
    refine al_59  1 cl_1 dX8_inn_46 rfl ?_
    refine h_iconst (1 : Int32) dX8_inn_47 k_iconst_1 ?_
    refine h_iadd dX8_inn_48 ?_
    obtain ⟨I2', e2, h⟩ := bnd_some h
    refine as_59  1 cl_1 dX8_inn_49 rfl ?_
    refine h_nmI e2 ?_
    refine h_iconst (0 : Int32) dX8_inn_50 k_iconst_0 ?_
    cases h
    exact h_zret dX8_inn_51 rfl rfl E
def f_X8_inn   (I : Mem) (v1 : Int32) (v2 : Int32) : Option (Int32 × Mem) :=
  bnd (upd4 I 8 0 0 2 (0 : Int32)) fun I1' =>
  (f_X8_isTown I1' v1).bind fun y1 =>
  if y1 = 0 then (bnd (upd4 I1' 8 0 0 2 (1 : Int32)) fun I2' =>
  some ((0 : Int32), I2')) else (if v2 = 0 then (f_X8_inn_37 I1' v1 (0 : Int32) ((jshr (I1' 8 0 0 29) v1) &&& (1 : Int32))) else (f_X8_inn_37 I1' v1 (1 : Int32) ((jshr (I1' 8 0 0 29) v1) &&& (1 : Int32))))
theorem b_X8_inn (X : CX) (Q : State → Prop) {I : Mem} {P : PMem} {O : Nat → Int64} {D : Bool} {n : Nat} {v1 : Int32} {v2 : Int32} {r : (Int32 × Mem)}  (h : f_X8_inn I v1 v2 = some r) (E : EndR X cX8_inn RX8 3 (some .boolean) 4 n (some (.inl r.1)) r.2 P O D Q) : Here X cX8_inn RX8 3 (some .boolean) 4 n 0 [some (.inr (.inr (8, 0, 0))), some (.inl v1), some (.inl v2)] [] I P O D n Q := by
  unfold f_X8_inn at h
  refine h_aload_n dX8_inn_0 rfl ?_
  refine h_iconst (0 : Int32) dX8_inn_1 k_iconst_0 ?_
  obtain ⟨I1', e1, h⟩ := bnd_some h
  refine p_X8_150  dX8_inn_2 ?_
  refine h_nmI e1 ?_
  refine h_aload_n dX8_inn_5 rfl ?_
  refine h_iload_n dX8_inn_6 rfl ?_
  obtain ⟨y1, hh1, h⟩ := obd_some h
  refine h_cVi [.inl v1] (m_X8_isTown  hh1) cw_X8_413 dX8_inn_7 rfl ok_8 (by decide) rfl (Or.inr rfl) rfl ?_
  refine h_if_ne (tgt := 20) dX8_inn_10 (by decide) (fun q1 => ?_) (fun q1 => ?_)
  · rw [if_neg q1] at h
    refine h_aload_n dX8_inn_20 rfl ?_
    refine g_X8_311  dX8_inn_21 ?_
    refine h_iload_n dX8_inn_24 rfl ?_
    refine h_shr dX8_inn_25 ?_
    refine h_iconst (1 : Int32) dX8_inn_26 k_iconst_1 ?_
    refine h_iand dX8_inn_27 ?_
    refine h_iload_n dX8_inn_28 rfl ?_
    refine h_if_eq (tgt := 36) dX8_inn_29 (by decide) (fun q2 => ?_) (fun q2 => ?_)
    · rw [if_pos q2] at h
      refine h_iconst (0 : Int32) dX8_inn_36 k_iconst_0 ?_
      exact h_mask [true, true, false] (b_X8_inn_37 X Q  h E)
    · rw [if_neg q2] at h
      refine h_iconst (1 : Int32) dX8_inn_32 k_iconst_1 ?_
      refine h_goto (tgt := 37) dX8_inn_33 (by decide) ?_
      exact h_mask [true, true, false] (b_X8_inn_37 X Q  h E)
  · rw [if_pos q1] at h
    refine h_aload_n dX8_inn_13 rfl ?_
    refine h_iconst (1 : Int32) dX8_inn_14 k_iconst_1 ?_
    obtain ⟨I2', e2, h⟩ := bnd_some h
    refine p_X8_150  dX8_inn_15 ?_
    refine h_nmI e2 ?_
    refine h_iconst (0 : Int32) dX8_inn_18 k_iconst_0 ?_
    cases h
    exact h_zret dX8_inn_19 rfl rfl E
theorem m_X8_inn {I : Mem} {P : PMem} {O : Nat → Int64} {D : Bool} {n : Nat} {v1 : Int32} {v2 : Int32} {r : (Int32 × Mem)}  (h : f_X8_inn I v1 v2 = some r) : MethR yX8_inn cX8_inn 3 (some .boolean) 4 [.inr (.inr (8, 0, 0)), .inl v1, .inl v2] I P O D n (some (.inl r.1)) r.2 P O D n := meth_R (Nat.le_refl _) (by decide) rfl (Nat.le_of_ble_eq_true rfl) rfl (fun X Q E => b_X8_inn X Q  h E)
def f_X8_putRow  (c0 : Nat) (z0 : Nat) (r0 : Nat) (I : Mem) (v1 : Int32) (v2 : Int32) (v3 : Int32) (v4 : Int32) : Option (Mem) :=
  gd (inb ((3 : Int32) * v1) (cL c0 z0)) <|
  bnd (upd4 I c0 z0 r0 (((3 : Int32) * v1).toNatClampNeg) v2) fun I1' =>
  gd (inb (((3 : Int32) * v1) + (1 : Int32)) (cL c0 z0)) <|
  bnd (upd4 I1' c0 z0 r0 ((((3 : Int32) * v1) + (1 : Int32)).toNatClampNeg) v3) fun I2' =>
  gd (inb (((3 : Int32) * v1) + (2 : Int32)) (cL c0 z0)) <|
  bnd (upd4 I2' c0 z0 r0 ((((3 : Int32) * v1) + (2 : Int32)).toNatClampNeg) v4) fun I3' =>
  some I3'
theorem b_X8_putRow (X : CX) (Q : State → Prop) {I : Mem} {P : PMem} {O : Nat → Int64} {D : Bool} {n : Nat} {c0 : Nat} {z0 : Nat} {r0 : Nat} {v1 : Int32} {v2 : Int32} {v3 : Int32} {v4 : Int32} {r : (Mem)}  (hc0 : iaOK c0 z0 r0 = true) (h : f_X8_putRow c0 z0 r0 I v1 v2 v3 v4 = some r) (E : EndR X cX8_putRow RX8 5 (none) 2 n none r P O D Q) : Here X cX8_putRow RX8 5 (none) 2 n 0 [some (.inr (.inr (c0, z0, r0))), some (.inl v1), some (.inl v2), some (.inl v3), some (.inl v4)] [] I P O D n Q := by
  unfold f_X8_putRow at h
  refine h_aload_n dX8_putRow_0 rfl ?_
  refine h_iconst (3 : Int32) dX8_putRow_1 k_iconst_3 ?_
  refine h_iload_n dX8_putRow_2 rfl ?_
  refine h_imul dX8_putRow_3 ?_
  refine h_iload_n dX8_putRow_4 rfl ?_
  obtain ⟨g1, h⟩ := gd_some h
  obtain ⟨I1', e1, h⟩ := bnd_some h
  refine as_v hc0 (((3 : Int32) * v1).toNatClampNeg) rfl dX8_putRow_5 g1 ?_
  refine h_nmI e1 ?_
  refine h_aload_n dX8_putRow_6 rfl ?_
  refine h_iconst (3 : Int32) dX8_putRow_7 k_iconst_3 ?_
  refine h_iload_n dX8_putRow_8 rfl ?_
  refine h_imul dX8_putRow_9 ?_
  refine h_iconst (1 : Int32) dX8_putRow_10 k_iconst_1 ?_
  refine h_iadd dX8_putRow_11 ?_
  refine h_iload_n dX8_putRow_12 rfl ?_
  obtain ⟨g2, h⟩ := gd_some h
  obtain ⟨I2', e2, h⟩ := bnd_some h
  refine as_v hc0 ((((3 : Int32) * v1) + (1 : Int32)).toNatClampNeg) rfl dX8_putRow_13 g2 ?_
  refine h_nmI e2 ?_
  refine h_aload_n dX8_putRow_14 rfl ?_
  refine h_iconst (3 : Int32) dX8_putRow_15 k_iconst_3 ?_
  refine h_iload_n dX8_putRow_16 rfl ?_
  refine h_imul dX8_putRow_17 ?_
  refine h_iconst (2 : Int32) dX8_putRow_18 k_iconst_2 ?_
  refine h_iadd dX8_putRow_19 ?_
  refine h_iload dX8_putRow_20 rfl ?_
  obtain ⟨g3, h⟩ := gd_some h
  obtain ⟨I3', e3, h⟩ := bnd_some h
  refine as_v hc0 ((((3 : Int32) * v1) + (2 : Int32)).toNatClampNeg) rfl dX8_putRow_22 g3 ?_
  refine h_nmI e3 ?_
  cases h
  exact h_vret dX8_putRow_23 rfl E
theorem m_X8_putRow {I : Mem} {P : PMem} {O : Nat → Int64} {D : Bool} {n : Nat} {c0 : Nat} {z0 : Nat} {r0 : Nat} {v1 : Int32} {v2 : Int32} {v3 : Int32} {v4 : Int32} {r : (Mem)} (hc0 : iaOK c0 z0 r0 = true) (h : f_X8_putRow c0 z0 r0 I v1 v2 v3 v4 = some r) : MethR yX8_putRow cX8_putRow 5 (none) 2 [.inr (.inr (c0, z0, r0)), .inl v1, .inl v2, .inl v3, .inl v4] I P O D n none r P O D n := meth_R (Nat.le_refl _) (by decide) rfl (Nat.le_of_ble_eq_true rfl) rfl (fun X Q E => b_X8_putRow X Q hc0 h E)
def f_X8_word_47   (I : Mem) : Option (Int32 × Mem) :=
  (f_X8_refuse I (1 : Int32)).bind fun y1 =>
  some (y1.1, y1.2)
theorem b_X8_word_47 (X : CX) (Q : State → Prop) {I : Mem} {P : PMem} {O : Nat → Int64} {D : Bool} {n : Nat} {r : (Int32 × Mem)}  (h : f_X8_word_47 I = some r) (E : EndR X cX8_word RX8 4 (some .int) 4 n (some (.inl r.1)) r.2 P O D Q) : Here X cX8_word RX8 4 (some .int) 4 n 47 [some (.inr (.inr (8, 0, 0))), none, none, none] [] I P O D n Q := by
  unfold f_X8_word_47 at h
  refine h_aload_n dX8_word_47 rfl ?_
  refine h_iconst (1 : Int32) dX8_word_48 k_iconst_1 ?_
  obtain ⟨y1, hh1, h⟩ := obd_some h
  refine h_cVi [.inl (1 : Int32)] (m_X8_refuse  hh1) cw_X8_435 dX8_word_49 rfl ok_8 (by decide) rfl (Or.inr rfl) rfl ?_
  cases h
  exact h_iret dX8_word_52 rfl E
def f_X8_word_21   (I : Mem) : Option (Int32 × Mem) :=
  (f_X8_fail I (1 : Int32)).bind fun y1 =>
  some (y1.1, y1.2)
theorem b_X8_word_21 (X : CX) (Q : State → Prop) {I : Mem} {P : PMem} {O : Nat → Int64} {D : Bool} {n : Nat} {r : (Int32 × Mem)}  (h : f_X8_word_21 I = some r) (E : EndR X cX8_word RX8 4 (some .int) 4 n (some (.inl r.1)) r.2 P O D Q) : Here X cX8_word RX8 4 (some .int) 4 n 21 [some (.inr (.inr (8, 0, 0))), none, none, none] [] I P O D n Q := by
  unfold f_X8_word_21 at h
  refine h_aload_n dX8_word_21 rfl ?_
  refine h_iconst (1 : Int32) dX8_word_22 k_iconst_1 ?_
  obtain ⟨y1, hh1, h⟩ := obd_some h
  refine h_cVi [.inl (1 : Int32)] (m_X8_fail  hh1) cw_X8_298 dX8_word_23 rfl ok_8 (by decide) rfl (Or.inr rfl) rfl ?_
  cases h
  exact h_iret dX8_word_26 rfl E
def f_X8_word   (I : Mem) (v1 : Int32) (v2 : Int32) (v3 : Int32) : Option (Int32 × Mem) :=
  bnd (upd4 I 8 0 0 2 (0 : Int32)) fun I1' =>
  (f_X8_isCase I1' v1).bind fun y1 =>
  if y1 = 0 then (f_X8_word_21 I1') else ((f_X8_isTown I1' v2).bind fun y2 =>
  if y2 = 0 then (f_X8_word_21 I1') else (if (I1' 8 0 0 30) = (4 : Int32) then (f_X8_word_47 I1') else ((f_X8_isIn I1' v3.toInt64 (0 : Int64) (99 : Int64)).bind fun y3 =>
  if y3 = 0 then (f_X8_word_47 I1') else ((f_X8_keep I1').bind fun y4 =>
  (f_X8_putRow 62 0 0 y4 (y4 8 0 0 30) v1 v2 v3).bind fun y5 =>
  bnd (upd4 y5 8 0 0 30 ((y5 8 0 0 30) + (1 : Int32))) fun I2' =>
  some ((I2' 8 0 0 30), I2')))))
theorem b_X8_word (X : CX) (Q : State → Prop) {I : Mem} {P : PMem} {O : Nat → Int64} {D : Bool} {n : Nat} {v1 : Int32} {v2 : Int32} {v3 : Int32} {r : (Int32 × Mem)}  (h : f_X8_word I v1 v2 v3 = some r) (E : EndR X cX8_word RX8 4 (some .int) 4 n (some (.inl r.1)) r.2 P O D Q) : Here X cX8_word RX8 4 (some .int) 4 n 0 [some (.inr (.inr (8, 0, 0))), some (.inl v1), some (.inl v2), some (.inl v3)] [] I P O D n Q := by
  unfold f_X8_word at h
  refine h_aload_n dX8_word_0 rfl ?_
  refine h_iconst (0 : Int32) dX8_word_1 k_iconst_0 ?_
  obtain ⟨I1', e1, h⟩ := bnd_some h
  refine p_X8_150  dX8_word_2 ?_
  refine h_nmI e1 ?_
  refine h_aload_n dX8_word_5 rfl ?_
  refine h_iload_n dX8_word_6 rfl ?_
  obtain ⟨y1, hh1, h⟩ := obd_some h
  refine h_cVi [.inl v1] (m_X8_isCase  hh1) cw_X8_424 dX8_word_7 rfl ok_8 (by decide) rfl (Or.inr rfl) rfl ?_
  refine h_if_eq (tgt := 21) dX8_word_10 (by decide) (fun q1 => ?_) (fun q1 => ?_)
  · rw [if_pos q1] at h
    exact h_mask [true, false, false, false] (b_X8_word_21 X Q  h E)
  · rw [if_neg q1] at h
    refine h_aload_n dX8_word_13 rfl ?_
    refine h_iload_n dX8_word_14 rfl ?_
    obtain ⟨y2, hh2, h⟩ := obd_some h
    refine h_cVi [.inl v2] (m_X8_isTown  hh2) cw_X8_413 dX8_word_15 rfl ok_8 (by decide) rfl (Or.inr rfl) rfl ?_
    refine h_if_ne (tgt := 27) dX8_word_18 (by decide) (fun q2 => ?_) (fun q2 => ?_)
    · rw [if_neg q2] at h
      refine h_aload_n dX8_word_27 rfl ?_
      refine g_X8_314  dX8_word_28 ?_
      refine h_iconst (4 : Int32) dX8_word_31 k_iconst_4 ?_
      refine h_icmp_eq (tgt := 47) dX8_word_32 (by decide) (fun q3 => ?_) (fun q3 => ?_)
      · rw [if_pos q3] at h
        exact h_mask [true, false, false, false] (b_X8_word_47 X Q  h E)
      · rw [if_neg q3] at h
        refine h_iload_n dX8_word_35 rfl ?_
        refine h_i2l dX8_word_36 ?_
        refine h_lconst 0 dX8_word_37 rfl ?_
        refine h_ldc2 99 dX8_word_38 kl_X8_441 ?_
        obtain ⟨y3, hh3, h⟩ := obd_some h
        refine h_cSi [.inr (.inl v3.toInt64), .inr (.inl (0 : Int64)), .inr (.inl (99 : Int64))] (m_X8_isIn  hh3) cs_X8_153 dX8_word_41 rfl (by decide) rfl (Or.inr rfl) rfl ?_
        refine h_if_ne (tgt := 53) dX8_word_44 (by decide) (fun q4 => ?_) (fun q4 => ?_)
        · rw [if_neg q4] at h
          refine h_aload_n dX8_word_53 rfl ?_
          obtain ⟨y4, hh4, h⟩ := obd_some h
          refine h_cVv [] (m_X8_keep  hh4) cw_X8_438 dX8_word_54 rfl ok_8 (by decide) rfl (Or.inr rfl) rfl ?_
          refine h_aload_n dX8_word_57 rfl ?_
          refine g_X8_73  dX8_word_58 ?_
          refine h_aload_n dX8_word_61 rfl ?_
          refine g_X8_314  dX8_word_62 ?_
          refine h_iload_n dX8_word_65 rfl ?_
          refine h_iload_n dX8_word_66 rfl ?_
          refine h_iload_n dX8_word_67 rfl ?_
          obtain ⟨y5, hh5, h⟩ := obd_some h
          refine h_cSv [.inr (.inr (62, 0, 0)), .inl (y4 8 0 0 30), .inl v1, .inl v2, .inl v3] (m_X8_putRow rfl hh5) cs_X8_443 dX8_word_68 rfl (by decide) rfl (Or.inr rfl) rfl ?_
          refine h_aload_n dX8_word_71 rfl ?_
          refine h_dup dX8_word_72 (fun _ => rfl) ?_
          refine g_X8_314  dX8_word_73 ?_
          refine h_iconst (1 : Int32) dX8_word_76 k_iconst_1 ?_
          refine h_iadd dX8_word_77 ?_
          obtain ⟨I2', e2, h⟩ := bnd_some h
          refine p_X8_314  dX8_word_78 ?_
          refine h_nmI e2 ?_
          refine h_aload_n dX8_word_81 rfl ?_
          refine g_X8_314  dX8_word_82 ?_
          cases h
          exact h_iret dX8_word_85 rfl E
        · rw [if_pos q4] at h
          exact h_mask [true, false, false, false] (b_X8_word_47 X Q  h E)
    · rw [if_pos q2] at h
      exact h_mask [true, false, false, false] (b_X8_word_21 X Q  h E)
theorem m_X8_word {I : Mem} {P : PMem} {O : Nat → Int64} {D : Bool} {n : Nat} {v1 : Int32} {v2 : Int32} {v3 : Int32} {r : (Int32 × Mem)}  (h : f_X8_word I v1 v2 v3 = some r) : MethR yX8_word cX8_word 4 (some .int) 4 [.inr (.inr (8, 0, 0)), .inl v1, .inl v2, .inl v3] I P O D n (some (.inl r.1)) r.2 P O D n := meth_R (Nat.le_refl _) (by decide) rfl (Nat.le_of_ble_eq_true rfl) rfl (fun X Q E => b_X8_word X Q  h E)
def f_X8_feast_52   (I : Mem) : Option (Int32 × Mem) :=
  (f_X8_refuse I (1 : Int32)).bind fun y1 =>
  some (y1.1, y1.2)
theorem b_X8_feast_52 (X : CX) (Q : State → Prop) {I : Mem} {P : PMem} {O : Nat → Int64} {D : Bool} {n : Nat} {r : (Int32 × Mem)}  (h : f_X8_feast_52 I = some r) (E : EndR X cX8_feast RX8 4 (some .int) 4 n (some (.inl r.1)) r.2 P O D Q) : Here X cX8_feast RX8 4 (some .int) 4 n 52 [some (.inr (.inr (8, 0, 0))), none, none, none] [] I P O D n Q := by
  unfold f_X8_feast_52 at h
  refine h_aload_n dX8_feast_52 rfl ?_
  refine h_iconst (1 : Int32) dX8_feast_53 k_iconst_1 ?_
  obtain ⟨y1, hh1, h⟩ := obd_some h
  refine h_cVi [.inl (1 : Int32)] (m_X8_refuse  hh1) cw_X8_435 dX8_feast_54 rfl ok_8 (by decide) rfl (Or.inr rfl) rfl ?_
  cases h
  exact h_iret dX8_feast_57 rfl E
def f_X8_feast   (I : Mem) (v1 : Int32) (v2 : Int32) (v3 : Int32) : Option (Int32 × Mem) :=
  bnd (upd4 I 8 0 0 2 (0 : Int32)) fun I1' =>
  (f_X8_isTown I1' v1).bind fun y1 =>
  if y1 = 0 then ((f_X8_fail I1' (1 : Int32)).bind fun y6 =>
  some (y6.1, y6.2)) else (if (I1' 8 0 0 31) = (4 : Int32) then (f_X8_feast_52 I1') else ((f_X8_isIn I1' v2.toInt64 (0 : Int64) (99 : Int64)).bind fun y2 =>
  if y2 = 0 then (f_X8_feast_52 I1') else ((f_X8_isIn I1' v3.toInt64 v2.toInt64 (99 : Int64)).bind fun y3 =>
  if y3 = 0 then (f_X8_feast_52 I1') else ((f_X8_keep I1').bind fun y4 =>
  (f_X8_putRow 63 0 0 y4 (y4 8 0 0 31) v1 v2 v3).bind fun y5 =>
  bnd (upd4 y5 8 0 0 31 ((y5 8 0 0 31) + (1 : Int32))) fun I2' =>
  some ((I2' 8 0 0 31), I2')))))
theorem b_X8_feast (X : CX) (Q : State → Prop) {I : Mem} {P : PMem} {O : Nat → Int64} {D : Bool} {n : Nat} {v1 : Int32} {v2 : Int32} {v3 : Int32} {r : (Int32 × Mem)}  (h : f_X8_feast I v1 v2 v3 = some r) (E : EndR X cX8_feast RX8 4 (some .int) 4 n (some (.inl r.1)) r.2 P O D Q) : Here X cX8_feast RX8 4 (some .int) 4 n 0 [some (.inr (.inr (8, 0, 0))), some (.inl v1), some (.inl v2), some (.inl v3)] [] I P O D n Q := by
  unfold f_X8_feast at h
  refine h_aload_n dX8_feast_0 rfl ?_
  refine h_iconst (0 : Int32) dX8_feast_1 k_iconst_0 ?_
  obtain ⟨I1', e1, h⟩ := bnd_some h
  refine p_X8_150  dX8_feast_2 ?_
  refine h_nmI e1 ?_
  refine h_aload_n dX8_feast_5 rfl ?_
  refine h_iload_n dX8_feast_6 rfl ?_
  obtain ⟨y1, hh1, h⟩ := obd_some h
  refine h_cVi [.inl v1] (m_X8_isTown  hh1) cw_X8_413 dX8_feast_7 rfl ok_8 (by decide) rfl (Or.inr rfl) rfl ?_
  refine h_if_ne (tgt := 19) dX8_feast_10 (by decide) (fun q1 => ?_) (fun q1 => ?_)
  · rw [if_neg q1] at h
    refine h_aload_n dX8_feast_19 rfl ?_
    refine g_X8_317  dX8_feast_20 ?_
    refine h_iconst (4 : Int32) dX8_feast_23 k_iconst_4 ?_
    refine h_icmp_eq (tgt := 52) dX8_feast_24 (by decide) (fun q2 => ?_) (fun q2 => ?_)
    · rw [if_pos q2] at h
      exact h_mask [true, false, false, false] (b_X8_feast_52 X Q  h E)
    · rw [if_neg q2] at h
      refine h_iload_n dX8_feast_27 rfl ?_
      refine h_i2l dX8_feast_28 ?_
      refine h_lconst 0 dX8_feast_29 rfl ?_
      refine h_ldc2 99 dX8_feast_30 kl_X8_441 ?_
      obtain ⟨y2, hh2, h⟩ := obd_some h
      refine h_cSi [.inr (.inl v2.toInt64), .inr (.inl (0 : Int64)), .inr (.inl (99 : Int64))] (m_X8_isIn  hh2) cs_X8_153 dX8_feast_33 rfl (by decide) rfl (Or.inr rfl) rfl ?_
      refine h_if_eq (tgt := 52) dX8_feast_36 (by decide) (fun q3 => ?_) (fun q3 => ?_)
      · rw [if_pos q3] at h
        exact h_mask [true, false, false, false] (b_X8_feast_52 X Q  h E)
      · rw [if_neg q3] at h
        refine h_iload_n dX8_feast_39 rfl ?_
        refine h_i2l dX8_feast_40 ?_
        refine h_iload_n dX8_feast_41 rfl ?_
        refine h_i2l dX8_feast_42 ?_
        refine h_ldc2 99 dX8_feast_43 kl_X8_441 ?_
        obtain ⟨y3, hh3, h⟩ := obd_some h
        refine h_cSi [.inr (.inl v3.toInt64), .inr (.inl v2.toInt64), .inr (.inl (99 : Int64))] (m_X8_isIn  hh3) cs_X8_153 dX8_feast_46 rfl (by decide) rfl (Or.inr rfl) rfl ?_
        refine h_if_ne (tgt := 58) dX8_feast_49 (by decide) (fun q4 => ?_) (fun q4 => ?_)
        · rw [if_neg q4] at h
          refine h_aload_n dX8_feast_58 rfl ?_
          obtain ⟨y4, hh4, h⟩ := obd_some h
          refine h_cVv [] (m_X8_keep  hh4) cw_X8_438 dX8_feast_59 rfl ok_8 (by decide) rfl (Or.inr rfl) rfl ?_
          refine h_aload_n dX8_feast_62 rfl ?_
          refine g_X8_76  dX8_feast_63 ?_
          refine h_aload_n dX8_feast_66 rfl ?_
          refine g_X8_317  dX8_feast_67 ?_
          refine h_iload_n dX8_feast_70 rfl ?_
          refine h_iload_n dX8_feast_71 rfl ?_
          refine h_iload_n dX8_feast_72 rfl ?_
          obtain ⟨y5, hh5, h⟩ := obd_some h
          refine h_cSv [.inr (.inr (63, 0, 0)), .inl (y4 8 0 0 31), .inl v1, .inl v2, .inl v3] (m_X8_putRow rfl hh5) cs_X8_443 dX8_feast_73 rfl (by decide) rfl (Or.inr rfl) rfl ?_
          refine h_aload_n dX8_feast_76 rfl ?_
          refine h_dup dX8_feast_77 (fun _ => rfl) ?_
          refine g_X8_317  dX8_feast_78 ?_
          refine h_iconst (1 : Int32) dX8_feast_81 k_iconst_1 ?_
          refine h_iadd dX8_feast_82 ?_
          obtain ⟨I2', e2, h⟩ := bnd_some h
          refine p_X8_317  dX8_feast_83 ?_
          refine h_nmI e2 ?_
          refine h_aload_n dX8_feast_86 rfl ?_
          refine g_X8_317  dX8_feast_87 ?_
          cases h
          exact h_iret dX8_feast_90 rfl E
        · rw [if_pos q4] at h
          exact h_mask [true, false, false, false] (b_X8_feast_52 X Q  h E)
  · rw [if_pos q1] at h
    refine h_aload_n dX8_feast_13 rfl ?_
    refine h_iconst (1 : Int32) dX8_feast_14 k_iconst_1 ?_
    obtain ⟨y6, hh6, h⟩ := obd_some h
    refine h_cVi [.inl (1 : Int32)] (m_X8_fail  hh6) cw_X8_298 dX8_feast_15 rfl ok_8 (by decide) rfl (Or.inr rfl) rfl ?_
    cases h
    exact h_iret dX8_feast_18 rfl E
theorem m_X8_feast {I : Mem} {P : PMem} {O : Nat → Int64} {D : Bool} {n : Nat} {v1 : Int32} {v2 : Int32} {v3 : Int32} {r : (Int32 × Mem)}  (h : f_X8_feast I v1 v2 v3 = some r) : MethR yX8_feast cX8_feast 4 (some .int) 4 [.inr (.inr (8, 0, 0)), .inl v1, .inl v2, .inl v3] I P O D n (some (.inl r.1)) r.2 P O D n := meth_R (Nat.le_refl _) (by decide) rfl (Nat.le_of_ble_eq_true rfl) rfl (fun X Q E => b_X8_feast X Q  h E)
