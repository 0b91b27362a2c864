theorem dX7_soonest_0 : decode cX7_soonest 0 = .ok (.iload_n 1, 1) := by decide +kernel
theorem dX7_soonest_1 : decode cX7_soonest 1 = .ok (.iconst 1, 1) := by decide +kernel
theorem dX7_soonest_2 : decode cX7_soonest 2 = .ok (.invokestatic 152, 3) := by decide +kernel
theorem dX7_soonest_5 : decode cX7_soonest 5 = .ok (.aload_n 0, 1) := by decide +kernel
theorem dX7_soonest_6 : decode cX7_soonest 6 = .ok (.invokevirtual 131, 3) := by decide +kernel
theorem dX7_soonest_9 : decode cX7_soonest 9 = .ok (.astore_n 2, 1) := by decide +kernel
theorem dX7_soonest_10 : decode cX7_soonest 10 = .ok (.iconst (-1), 1) := by decide +kernel
theorem dX7_soonest_11 : decode cX7_soonest 11 = .ok (.istore_n 3, 1) := by decide +kernel
theorem dX7_soonest_12 : decode cX7_soonest 12 = .ok (.iconst 0, 1) := by decide +kernel
theorem dX7_soonest_13 : decode cX7_soonest 13 = .ok (.istore 4, 2) := by decide +kernel
theorem dX7_soonest_15 : decode cX7_soonest 15 = .ok (.iload 4, 2) := by decide +kernel
theorem dX7_soonest_17 : decode cX7_soonest 17 = .ok (.aload_n 0, 1) := by decide +kernel
theorem dX7_soonest_18 : decode cX7_soonest 18 = .ok (.getfield 16, 3) := by decide +kernel
theorem dX7_soonest_21 : decode cX7_soonest 21 = .ok (.getfield 110, 3) := by decide +kernel
theorem dX7_soonest_24 : decode cX7_soonest 24 = .ok (.if_icmp .ge 50, 3) := by decide +kernel
theorem dX7_soonest_27 : decode cX7_soonest 27 = .ok (.aload_n 2, 1) := by decide +kernel
theorem dX7_soonest_28 : decode cX7_soonest 28 = .ok (.iload 4, 2) := by decide +kernel
theorem dX7_soonest_30 : decode cX7_soonest 30 = .ok (.invokevirtual 217, 3) := by decide +kernel
theorem dX7_soonest_33 : decode cX7_soonest 33 = .ok (.istore 5, 2) := by decide +kernel
theorem dX7_soonest_35 : decode cX7_soonest 35 = .ok (.iload 5, 2) := by decide +kernel
theorem dX7_soonest_37 : decode cX7_soonest 37 = .ok (.iconst (-1), 1) := by decide +kernel
theorem dX7_soonest_38 : decode cX7_soonest 38 = .ok (.if_icmp .eq 30, 3) := by decide +kernel
theorem dX7_soonest_41 : decode cX7_soonest 41 = .ok (.iload_n 3, 1) := by decide +kernel
theorem dX7_soonest_42 : decode cX7_soonest 42 = .ok (.iconst (-1), 1) := by decide +kernel
theorem dX7_soonest_43 : decode cX7_soonest 43 = .ok (.if_icmp .eq 22, 3) := by decide +kernel
theorem dX7_soonest_46 : decode cX7_soonest 46 = .ok (.iload_n 1, 1) := by decide +kernel
theorem dX7_soonest_47 : decode cX7_soonest 47 = .ok (.ifCond .ne 12, 3) := by decide +kernel
theorem dX7_soonest_50 : decode cX7_soonest 50 = .ok (.iload 5, 2) := by decide +kernel
theorem dX7_soonest_52 : decode cX7_soonest 52 = .ok (.iload_n 3, 1) := by decide +kernel
theorem dX7_soonest_53 : decode cX7_soonest 53 = .ok (.if_icmp .ge 15, 3) := by decide +kernel
theorem dX7_soonest_56 : decode cX7_soonest 56 = .ok (.goto 9, 3) := by decide +kernel
theorem dX7_soonest_59 : decode cX7_soonest 59 = .ok (.iload 5, 2) := by decide +kernel
theorem dX7_soonest_61 : decode cX7_soonest 61 = .ok (.iload_n 3, 1) := by decide +kernel
theorem dX7_soonest_62 : decode cX7_soonest 62 = .ok (.if_icmp .le 6, 3) := by decide +kernel
theorem dX7_soonest_65 : decode cX7_soonest 65 = .ok (.iload 5, 2) := by decide +kernel
theorem dX7_soonest_67 : decode cX7_soonest 67 = .ok (.istore_n 3, 1) := by decide +kernel
theorem dX7_soonest_68 : decode cX7_soonest 68 = .ok (.iinc 4 1, 3) := by decide +kernel
theorem dX7_soonest_71 : decode cX7_soonest 71 = .ok (.goto (-56), 3) := by decide +kernel
theorem dX7_soonest_74 : decode cX7_soonest 74 = .ok (.iload_n 3, 1) := by decide +kernel
theorem dX7_soonest_75 : decode cX7_soonest 75 = .ok (.ireturn, 1) := by decide +kernel
theorem dX7_see_0 : decode cX7_see 0 = .ok (.aload_n 0, 1) := by decide +kernel
theorem dX7_see_1 : decode cX7_see 1 = .ok (.iload_n 1, 1) := by decide +kernel
theorem dX7_see_2 : decode cX7_see 2 = .ok (.invokevirtual 194, 3) := by decide +kernel
theorem dX7_see_5 : decode cX7_see 5 = .ok (.aload_n 0, 1) := by decide +kernel
theorem dX7_see_6 : decode cX7_see 6 = .ok (.iload_n 2, 1) := by decide +kernel
theorem dX7_see_7 : decode cX7_see 7 = .ok (.invokevirtual 163, 3) := by decide +kernel
theorem dX7_see_10 : decode cX7_see 10 = .ok (.aload_n 0, 1) := by decide +kernel
theorem dX7_see_11 : decode cX7_see 11 = .ok (.getfield 35, 3) := by decide +kernel
theorem dX7_see_14 : decode cX7_see 14 = .ok (.getfield 141, 3) := by decide +kernel
theorem dX7_see_17 : decode cX7_see 17 = .ok (.invokevirtual 237, 3) := by decide +kernel
theorem dX7_see_20 : decode cX7_see 20 = .ok (.ifCond .eq 18, 3) := by decide +kernel
theorem dX7_see_23 : decode cX7_see 23 = .ok (.aload_n 0, 1) := by decide +kernel
theorem dX7_see_24 : decode cX7_see 24 = .ok (.getfield 35, 3) := by decide +kernel
theorem dX7_see_27 : decode cX7_see 27 = .ok (.getfield 82, 3) := by decide +kernel
theorem dX7_see_30 : decode cX7_see 30 = .ok (.iconst 2, 1) := by decide +kernel
theorem dX7_see_31 : decode cX7_see 31 = .ok (.dup2, 1) := by decide +kernel
theorem dX7_see_32 : decode cX7_see 32 = .ok (.iaload, 1) := by decide +kernel
theorem dX7_see_33 : decode cX7_see 33 = .ok (.iconst 1, 1) := by decide +kernel
theorem dX7_see_34 : decode cX7_see 34 = .ok (.iadd, 1) := by decide +kernel
theorem dX7_see_35 : decode cX7_see 35 = .ok (.iastore, 1) := by decide +kernel
theorem dX7_see_36 : decode cX7_see 36 = .ok (.iconst (-1), 1) := by decide +kernel
theorem dX7_see_37 : decode cX7_see 37 = .ok (.ireturn, 1) := by decide +kernel
theorem dX7_see_38 : decode cX7_see 38 = .ok (.aload_n 0, 1) := by decide +kernel
theorem dX7_see_39 : decode cX7_see 39 = .ok (.getfield 35, 3) := by decide +kernel
theorem dX7_see_42 : decode cX7_see 42 = .ok (.getfield 141, 3) := by decide +kernel
theorem dX7_see_45 : decode cX7_see 45 = .ok (.iload_n 1, 1) := by decide +kernel
theorem dX7_see_46 : decode cX7_see 46 = .ok (.iload_n 2, 1) := by decide +kernel
theorem dX7_see_47 : decode cX7_see 47 = .ok (.iload_n 3, 1) := by decide +kernel
theorem dX7_see_48 : decode cX7_see 48 = .ok (.ifCond .eq 7, 3) := by decide +kernel
theorem dX7_see_51 : decode cX7_see 51 = .ok (.iconst 1, 1) := by decide +kernel
theorem dX7_see_52 : decode cX7_see 52 = .ok (.goto 4, 3) := by decide +kernel
theorem dX7_see_55 : decode cX7_see 55 = .ok (.iconst 0, 1) := by decide +kernel
theorem dX7_see_56 : decode cX7_see 56 = .ok (.invokevirtual 241, 3) := by decide +kernel
theorem dX7_see_59 : decode cX7_see 59 = .ok (.aload_n 0, 1) := by decide +kernel
theorem dX7_see_60 : decode cX7_see 60 = .ok (.getfield 35, 3) := by decide +kernel
theorem dX7_see_63 : decode cX7_see 63 = .ok (.getfield 141, 3) := by decide +kernel
theorem dX7_see_66 : decode cX7_see 66 = .ok (.getfield 120, 3) := by decide +kernel
theorem dX7_see_69 : decode cX7_see 69 = .ok (.ireturn, 1) := by decide +kernel
theorem dX7_forget_0 : decode cX7_forget 0 = .ok (.aload_n 0, 1) := by decide +kernel
theorem dX7_forget_1 : decode cX7_forget 1 = .ok (.getfield 35, 3) := by decide +kernel
theorem dX7_forget_4 : decode cX7_forget 4 = .ok (.getfield 141, 3) := by decide +kernel
theorem dX7_forget_7 : decode cX7_forget 7 = .ok (.getfield 120, 3) := by decide +kernel
theorem dX7_forget_10 : decode cX7_forget 10 = .ok (.ifCond .ne 5, 3) := by decide +kernel
theorem dX7_forget_13 : decode cX7_forget 13 = .ok (.iconst (-1), 1) := by decide +kernel
theorem dX7_forget_14 : decode cX7_forget 14 = .ok (.ireturn, 1) := by decide +kernel
theorem dX7_forget_15 : decode cX7_forget 15 = .ok (.aload_n 0, 1) := by decide +kernel
theorem dX7_forget_16 : decode cX7_forget 16 = .ok (.getfield 35, 3) := by decide +kernel
theorem dX7_forget_19 : decode cX7_forget 19 = .ok (.getfield 141, 3) := by decide +kernel
theorem dX7_forget_22 : decode cX7_forget 22 = .ok (.invokevirtual 281, 3) := by decide +kernel
theorem dX7_forget_25 : decode cX7_forget 25 = .ok (.aload_n 0, 1) := by decide +kernel
theorem dX7_forget_26 : decode cX7_forget 26 = .ok (.getfield 35, 3) := by decide +kernel
theorem dX7_forget_29 : decode cX7_forget 29 = .ok (.getfield 141, 3) := by decide +kernel
theorem dX7_forget_32 : decode cX7_forget 32 = .ok (.getfield 120, 3) := by decide +kernel
theorem dX7_forget_35 : decode cX7_forget 35 = .ok (.ireturn, 1) := by decide +kernel
theorem dX7_sent_0 : decode cX7_sent 0 = .ok (.aload_n 0, 1) := by decide +kernel
theorem dX7_sent_1 : decode cX7_sent 1 = .ok (.iload_n 1, 1) := by decide +kernel
theorem dX7_sent_2 : decode cX7_sent 2 = .ok (.invokevirtual 194, 3) := by decide +kernel
theorem dX7_sent_5 : decode cX7_sent 5 = .ok (.iload_n 2, 1) := by decide +kernel
theorem dX7_sent_6 : decode cX7_sent 6 = .ok (.iconst 2, 1) := by decide +kernel
theorem dX7_sent_7 : decode cX7_sent 7 = .ok (.invokestatic 152, 3) := by decide +kernel
theorem dX7_sent_10 : decode cX7_sent 10 = .ok (.aload_n 0, 1) := by decide +kernel
theorem dX7_sent_11 : decode cX7_sent 11 = .ok (.invokevirtual 131, 3) := by decide +kernel
theorem dX7_sent_14 : decode cX7_sent 14 = .ok (.astore_n 3, 1) := by decide +kernel
theorem dX7_sent_15 : decode cX7_sent 15 = .ok (.iload_n 2, 1) := by decide +kernel
theorem dX7_sent_16 : decode cX7_sent 16 = .ok (.iconst 2, 1) := by decide +kernel
theorem dX7_sent_17 : decode cX7_sent 17 = .ok (.if_icmp .ne 18, 3) := by decide +kernel
theorem dX7_sent_20 : decode cX7_sent 20 = .ok (.aload_n 3, 1) := by decide +kernel
theorem dX7_sent_21 : decode cX7_sent 21 = .ok (.iload_n 1, 1) := by decide +kernel
theorem dX7_sent_22 : decode cX7_sent 22 = .ok (.iconst 0, 1) := by decide +kernel
theorem dX7_sent_23 : decode cX7_sent 23 = .ok (.invokevirtual 284, 3) := by decide +kernel
theorem dX7_sent_26 : decode cX7_sent 26 = .ok (.ifCond .eq 7, 3) := by decide +kernel
theorem dX7_sent_29 : decode cX7_sent 29 = .ok (.iconst 1, 1) := by decide +kernel
theorem dX7_sent_30 : decode cX7_sent 30 = .ok (.goto 4, 3) := by decide +kernel
theorem dX7_sent_33 : decode cX7_sent 33 = .ok (.iconst 0, 1) := by decide +kernel
theorem dX7_sent_34 : decode cX7_sent 34 = .ok (.ireturn, 1) := by decide +kernel
theorem dX7_sent_35 : decode cX7_sent 35 = .ok (.iconst 0, 1) := by decide +kernel
theorem dX7_sent_36 : decode cX7_sent 36 = .ok (.istore 4, 2) := by decide +kernel
theorem dX7_sent_38 : decode cX7_sent 38 = .ok (.iconst (-1), 1) := by decide +kernel
theorem dX7_sent_39 : decode cX7_sent 39 = .ok (.istore 5, 2) := by decide +kernel
theorem dX7_sent_41 : decode cX7_sent 41 = .ok (.iconst 0, 1) := by decide +kernel
theorem dX7_sent_42 : decode cX7_sent 42 = .ok (.istore 6, 2) := by decide +kernel
theorem dX7_sent_44 : decode cX7_sent 44 = .ok (.iload 6, 2) := by decide +kernel
theorem dX7_sent_46 : decode cX7_sent 46 = .ok (.bipush 60, 2) := by decide +kernel
theorem dX7_sent_48 : decode cX7_sent 48 = .ok (.if_icmp .gt 71, 3) := by decide +kernel
theorem dX7_sent_51 : decode cX7_sent 51 = .ok (.iconst 0, 1) := by decide +kernel
theorem dX7_sent_52 : decode cX7_sent 52 = .ok (.istore 7, 2) := by decide +kernel
theorem dX7_sent_54 : decode cX7_sent 54 = .ok (.iload 7, 2) := by decide +kernel
theorem dX7_sent_56 : decode cX7_sent 56 = .ok (.aload_n 0, 1) := by decide +kernel
theorem dX7_sent_57 : decode cX7_sent 57 = .ok (.getfield 16, 3) := by decide +kernel
theorem dX7_sent_60 : decode cX7_sent 60 = .ok (.getfield 97, 3) := by decide +kernel
theorem dX7_sent_63 : decode cX7_sent 63 = .ok (.if_icmp .ge 50, 3) := by decide +kernel
theorem dX7_sent_66 : decode cX7_sent 66 = .ok (.aload_n 3, 1) := by decide +kernel
theorem dX7_sent_67 : decode cX7_sent 67 = .ok (.iload_n 1, 1) := by decide +kernel
theorem dX7_sent_68 : decode cX7_sent 68 = .ok (.aload_n 3, 1) := by decide +kernel
theorem dX7_sent_69 : decode cX7_sent 69 = .ok (.iload_n 1, 1) := by decide +kernel
theorem dX7_sent_70 : decode cX7_sent 70 = .ok (.iload 7, 2) := by decide +kernel
theorem dX7_sent_72 : decode cX7_sent 72 = .ok (.iload 6, 2) := by decide +kernel
theorem dX7_sent_74 : decode cX7_sent 74 = .ok (.invokevirtual 266, 3) := by decide +kernel
theorem dX7_sent_77 : decode cX7_sent 77 = .ok (.invokevirtual 284, 3) := by decide +kernel
theorem dX7_sent_80 : decode cX7_sent 80 = .ok (.ifCond .eq 27, 3) := by decide +kernel
theorem dX7_sent_83 : decode cX7_sent 83 = .ok (.iinc 4 1, 3) := by decide +kernel
theorem dX7_sent_86 : decode cX7_sent 86 = .ok (.iload 5, 2) := by decide +kernel
theorem dX7_sent_88 : decode cX7_sent 88 = .ok (.iconst (-1), 1) := by decide +kernel
theorem dX7_sent_89 : decode cX7_sent 89 = .ok (.if_icmp .ne 14, 3) := by decide +kernel
theorem dX7_sent_92 : decode cX7_sent 92 = .ok (.bipush 100, 2) := by decide +kernel
theorem dX7_sent_94 : decode cX7_sent 94 = .ok (.iload 6, 2) := by decide +kernel
theorem dX7_sent_96 : decode cX7_sent 96 = .ok (.imul, 1) := by decide +kernel
theorem dX7_sent_97 : decode cX7_sent 97 = .ok (.iload 7, 2) := by decide +kernel
theorem dX7_sent_99 : decode cX7_sent 99 = .ok (.iadd, 1) := by decide +kernel
theorem dX7_sent_100 : decode cX7_sent 100 = .ok (.goto 5, 3) := by decide +kernel
theorem dX7_sent_103 : decode cX7_sent 103 = .ok (.iload 5, 2) := by decide +kernel
theorem dX7_sent_105 : decode cX7_sent 105 = .ok (.istore 5, 2) := by decide +kernel
theorem dX7_sent_107 : decode cX7_sent 107 = .ok (.iinc 7 1, 3) := by decide +kernel
theorem dX7_sent_110 : decode cX7_sent 110 = .ok (.goto (-56), 3) := by decide +kernel
theorem dX7_sent_113 : decode cX7_sent 113 = .ok (.iinc 6 1, 3) := by decide +kernel
theorem dX7_sent_116 : decode cX7_sent 116 = .ok (.goto (-72), 3) := by decide +kernel
theorem dX7_sent_119 : decode cX7_sent 119 = .ok (.iload_n 2, 1) := by decide +kernel
theorem dX7_sent_120 : decode cX7_sent 120 = .ok (.ifCond .ne 8, 3) := by decide +kernel
theorem dX7_sent_123 : decode cX7_sent 123 = .ok (.iload 4, 2) := by decide +kernel
theorem dX7_sent_125 : decode cX7_sent 125 = .ok (.goto 5, 3) := by decide +kernel
theorem dX7_sent_128 : decode cX7_sent 128 = .ok (.iload 5, 2) := by decide +kernel
theorem dX7_sent_130 : decode cX7_sent 130 = .ok (.ireturn, 1) := by decide +kernel
theorem dX7_game_0 : decode cX7_game 0 = .ok (.aload_n 0, 1) := by decide +kernel
theorem dX7_game_1 : decode cX7_game 1 = .ok (.iload_n 1, 1) := by decide +kernel
theorem dX7_game_2 : decode cX7_game 2 = .ok (.invokevirtual 194, 3) := by decide +kernel
theorem dX7_game_5 : decode cX7_game 5 = .ok (.iload_n 2, 1) := by decide +kernel
theorem dX7_game_6 : decode cX7_game 6 = .ok (.iconst 1, 1) := by decide +kernel
theorem dX7_game_7 : decode cX7_game 7 = .ok (.invokestatic 152, 3) := by decide +kernel
theorem dX7_game_10 : decode cX7_game 10 = .ok (.aload_n 0, 1) := by decide +kernel
theorem dX7_game_11 : decode cX7_game 11 = .ok (.invokevirtual 131, 3) := by decide +kernel
theorem dX7_game_14 : decode cX7_game 14 = .ok (.astore_n 3, 1) := by decide +kernel
theorem dX7_game_15 : decode cX7_game 15 = .ok (.aload_n 3, 1) := by decide +kernel
theorem dX7_game_16 : decode cX7_game 16 = .ok (.iload_n 1, 1) := by decide +kernel
theorem dX7_game_17 : decode cX7_game 17 = .ok (.invokevirtual 287, 3) := by decide +kernel
theorem dX7_game_20 : decode cX7_game 20 = .ok (.iconst 0, 1) := by decide +kernel
theorem dX7_game_21 : decode cX7_game 21 = .ok (.istore 4, 2) := by decide +kernel
theorem dX7_game_23 : decode cX7_game 23 = .ok (.iconst (-1), 1) := by decide +kernel
theorem dX7_game_24 : decode cX7_game 24 = .ok (.istore 5, 2) := by decide +kernel
theorem dX7_game_26 : decode cX7_game 26 = .ok (.iconst 0, 1) := by decide +kernel
theorem dX7_game_27 : decode cX7_game 27 = .ok (.istore 6, 2) := by decide +kernel
theorem dX7_game_29 : decode cX7_game 29 = .ok (.iload 6, 2) := by decide +kernel
theorem dX7_game_31 : decode cX7_game 31 = .ok (.aload_n 0, 1) := by decide +kernel
theorem dX7_game_32 : decode cX7_game 32 = .ok (.getfield 16, 3) := by decide +kernel
theorem dX7_game_35 : decode cX7_game 35 = .ok (.getfield 107, 3) := by decide +kernel
theorem dX7_game_38 : decode cX7_game 38 = .ok (.if_icmp .ge 65, 3) := by decide +kernel
theorem dX7_game_41 : decode cX7_game 41 = .ok (.iconst 0, 1) := by decide +kernel
theorem dX7_game_42 : decode cX7_game 42 = .ok (.istore 7, 2) := by decide +kernel
theorem dX7_game_44 : decode cX7_game 44 = .ok (.iload 7, 2) := by decide +kernel
theorem dX7_game_46 : decode cX7_game 46 = .ok (.aload_n 0, 1) := by decide +kernel
theorem dX7_game_47 : decode cX7_game 47 = .ok (.getfield 16, 3) := by decide +kernel
theorem dX7_game_50 : decode cX7_game 50 = .ok (.getfield 107, 3) := by decide +kernel
theorem dX7_game_53 : decode cX7_game 53 = .ok (.if_icmp .ge 44, 3) := by decide +kernel
theorem dX7_game_56 : decode cX7_game 56 = .ok (.aload_n 3, 1) := by decide +kernel
theorem dX7_game_57 : decode cX7_game 57 = .ok (.iload 6, 2) := by decide +kernel
theorem dX7_game_59 : decode cX7_game 59 = .ok (.iload 7, 2) := by decide +kernel
theorem dX7_game_61 : decode cX7_game 61 = .ok (.invokevirtual 290, 3) := by decide +kernel
theorem dX7_game_64 : decode cX7_game 64 = .ok (.ifCond .eq 27, 3) := by decide +kernel
theorem dX7_game_67 : decode cX7_game 67 = .ok (.iinc 4 1, 3) := by decide +kernel
theorem dX7_game_70 : decode cX7_game 70 = .ok (.iload 5, 2) := by decide +kernel
theorem dX7_game_72 : decode cX7_game 72 = .ok (.iconst (-1), 1) := by decide +kernel
theorem dX7_game_73 : decode cX7_game 73 = .ok (.if_icmp .ne 14, 3) := by decide +kernel
theorem dX7_game_76 : decode cX7_game 76 = .ok (.bipush 10, 2) := by decide +kernel
theorem dX7_game_78 : decode cX7_game 78 = .ok (.iload 6, 2) := by decide +kernel
theorem dX7_game_80 : decode cX7_game 80 = .ok (.imul, 1) := by decide +kernel
theorem dX7_game_81 : decode cX7_game 81 = .ok (.iload 7, 2) := by decide +kernel
theorem dX7_game_83 : decode cX7_game 83 = .ok (.iadd, 1) := by decide +kernel
theorem dX7_game_84 : decode cX7_game 84 = .ok (.goto 5, 3) := by decide +kernel
theorem dX7_game_87 : decode cX7_game 87 = .ok (.iload 5, 2) := by decide +kernel
theorem dX7_game_89 : decode cX7_game 89 = .ok (.istore 5, 2) := by decide +kernel
theorem dX7_game_91 : decode cX7_game 91 = .ok (.iinc 7 1, 3) := by decide +kernel
theorem dX7_game_94 : decode cX7_game 94 = .ok (.goto (-50), 3) := by decide +kernel
theorem dX7_game_97 : decode cX7_game 97 = .ok (.iinc 6 1, 3) := by decide +kernel
theorem dX7_game_100 : decode cX7_game 100 = .ok (.goto (-71), 3) := by decide +kernel
theorem dX7_game_103 : decode cX7_game 103 = .ok (.iload_n 2, 1) := by decide +kernel
theorem dX7_game_104 : decode cX7_game 104 = .ok (.ifCond .ne 8, 3) := by decide +kernel
theorem dX7_game_107 : decode cX7_game 107 = .ok (.iload 4, 2) := by decide +kernel
theorem dX7_game_109 : decode cX7_game 109 = .ok (.goto 5, 3) := by decide +kernel
theorem dX7_game_112 : decode cX7_game 112 = .ok (.iload 5, 2) := by decide +kernel
theorem dX7_game_114 : decode cX7_game 114 = .ok (.ireturn, 1) := by decide +kernel
theorem dX7_guiltyInYear_0 : decode cX7_guiltyInYear 0 = .ok (.aload_n 0, 1) := by decide +kernel
theorem dX7_guiltyInYear_1 : decode cX7_guiltyInYear 1 = .ok (.getfield 51, 3) := by decide +kernel
theorem dX7_guiltyInYear_4 : decode cX7_guiltyInYear 4 = .ok (.aload_n 0, 1) := by decide +kernel
theorem dX7_guiltyInYear_5 : decode cX7_guiltyInYear 5 = .ok (.getfield 35, 3) := by decide +kernel
theorem dX7_guiltyInYear_8 : decode cX7_guiltyInYear 8 = .ok (.getfield 113, 3) := by decide +kernel
theorem dX7_guiltyInYear_11 : decode cX7_guiltyInYear 11 = .ok (.invokevirtual 253, 3) := by decide +kernel
theorem dX7_guiltyInYear_14 : decode cX7_guiltyInYear 14 = .ok (.iconst 0, 1) := by decide +kernel
theorem dX7_guiltyInYear_15 : decode cX7_guiltyInYear 15 = .ok (.istore_n 2, 1) := by decide +kernel
theorem dX7_guiltyInYear_16 : decode cX7_guiltyInYear 16 = .ok (.iload_n 2, 1) := by decide +kernel
theorem dX7_guiltyInYear_17 : decode cX7_guiltyInYear 17 = .ok (.iconst 2, 1) := by decide +kernel
theorem dX7_guiltyInYear_18 : decode cX7_guiltyInYear 18 = .ok (.if_icmp .ge 59, 3) := by decide +kernel
theorem dX7_guiltyInYear_21 : decode cX7_guiltyInYear 21 = .ok (.aload_n 0, 1) := by decide +kernel
theorem dX7_guiltyInYear_22 : decode cX7_guiltyInYear 22 = .ok (.getfield 16, 3) := by decide +kernel
theorem dX7_guiltyInYear_25 : decode cX7_guiltyInYear 25 = .ok (.getfield 97, 3) := by decide +kernel
theorem dX7_guiltyInYear_28 : decode cX7_guiltyInYear 28 = .ok (.ifCond .le 49, 3) := by decide +kernel
theorem dX7_guiltyInYear_31 : decode cX7_guiltyInYear 31 = .ok (.aload_n 1, 1) := by decide +kernel
theorem dX7_guiltyInYear_32 : decode cX7_guiltyInYear 32 = .ok (.aload_n 0, 1) := by decide +kernel
theorem dX7_guiltyInYear_33 : decode cX7_guiltyInYear 33 = .ok (.getfield 16, 3) := by decide +kernel
theorem dX7_guiltyInYear_36 : decode cX7_guiltyInYear 36 = .ok (.getfield 97, 3) := by decide +kernel
theorem dX7_guiltyInYear_39 : decode cX7_guiltyInYear 39 = .ok (.invokevirtual 308, 3) := by decide +kernel
theorem dX7_guiltyInYear_42 : decode cX7_guiltyInYear 42 = .ok (.istore_n 3, 1) := by decide +kernel
theorem dX7_guiltyInYear_43 : decode cX7_guiltyInYear 43 = .ok (.aload_n 1, 1) := by decide +kernel
theorem dX7_guiltyInYear_44 : decode cX7_guiltyInYear 44 = .ok (.bipush 30, 2) := by decide +kernel
theorem dX7_guiltyInYear_46 : decode cX7_guiltyInYear 46 = .ok (.invokevirtual 308, 3) := by decide +kernel
theorem dX7_guiltyInYear_49 : decode cX7_guiltyInYear 49 = .ok (.istore 4, 2) := by decide +kernel
theorem dX7_guiltyInYear_51 : decode cX7_guiltyInYear 51 = .ok (.aload_n 1, 1) := by decide +kernel
theorem dX7_guiltyInYear_52 : decode cX7_guiltyInYear 52 = .ok (.bipush 6, 2) := by decide +kernel
theorem dX7_guiltyInYear_54 : decode cX7_guiltyInYear 54 = .ok (.invokevirtual 308, 3) := by decide +kernel
theorem dX7_guiltyInYear_57 : decode cX7_guiltyInYear 57 = .ok (.istore 5, 2) := by decide +kernel
theorem dX7_guiltyInYear_59 : decode cX7_guiltyInYear 59 = .ok (.aload_n 0, 1) := by decide +kernel
theorem dX7_guiltyInYear_60 : decode cX7_guiltyInYear 60 = .ok (.getfield 51, 3) := by decide +kernel
theorem dX7_guiltyInYear_63 : decode cX7_guiltyInYear 63 = .ok (.iload_n 3, 1) := by decide +kernel
theorem dX7_guiltyInYear_64 : decode cX7_guiltyInYear 64 = .ok (.iload 4, 2) := by decide +kernel
theorem dX7_guiltyInYear_66 : decode cX7_guiltyInYear 66 = .ok (.iload 5, 2) := by decide +kernel
theorem dX7_guiltyInYear_68 : decode cX7_guiltyInYear 68 = .ok (.invokevirtual 311, 3) := by decide +kernel
theorem dX7_guiltyInYear_71 : decode cX7_guiltyInYear 71 = .ok (.iinc 2 1, 3) := by decide +kernel
theorem dX7_guiltyInYear_74 : decode cX7_guiltyInYear 74 = .ok (.goto (-58), 3) := by decide +kernel
theorem dX7_guiltyInYear_77 : decode cX7_guiltyInYear 77 = .ok (.aload_n 0, 1) := by decide +kernel
theorem dX7_guiltyInYear_78 : decode cX7_guiltyInYear 78 = .ok (.getfield 51, 3) := by decide +kernel
theorem dX7_guiltyInYear_81 : decode cX7_guiltyInYear 81 = .ok (.invokevirtual 256, 3) := by decide +kernel
theorem dX7_guiltyInYear_84 : decode cX7_guiltyInYear 84 = .ok (.aload_n 0, 1) := by decide +kernel
theorem dX7_guiltyInYear_85 : decode cX7_guiltyInYear 85 = .ok (.getfield 51, 3) := by decide +kernel
theorem dX7_guiltyInYear_88 : decode cX7_guiltyInYear 88 = .ok (.invokevirtual 135, 3) := by decide +kernel
theorem dX7_guiltyInYear_91 : decode cX7_guiltyInYear 91 = .ok (.ireturn, 1) := by decide +kernel
theorem dX7_image_0 : decode cX7_image 0 = .ok (.aload_n 0, 1) := by decide +kernel
theorem dX7_image_1 : decode cX7_image 1 = .ok (.getfield 39, 3) := by decide +kernel
theorem dX7_image_4 : decode cX7_image 4 = .ok (.aload_n 0, 1) := by decide +kernel
theorem dX7_image_5 : decode cX7_image 5 = .ok (.getfield 35, 3) := by decide +kernel
theorem dX7_image_8 : decode cX7_image 8 = .ok (.invokevirtual 314, 3) := by decide +kernel
theorem dX7_image_11 : decode cX7_image 11 = .ok (.aload_n 0, 1) := by decide +kernel
theorem dX7_image_12 : decode cX7_image 12 = .ok (.iconst 1, 1) := by decide +kernel
theorem dX7_image_13 : decode cX7_image 13 = .ok (.putfield 90, 3) := by decide +kernel
theorem dX7_image_16 : decode cX7_image 16 = .ok (.return_, 1) := by decide +kernel
theorem dX7_restore_0 : decode cX7_restore 0 = .ok (.aload_n 0, 1) := by decide +kernel
theorem dX7_restore_1 : decode cX7_restore 1 = .ok (.getfield 90, 3) := by decide +kernel
theorem dX7_restore_4 : decode cX7_restore 4 = .ok (.ifCond .ne 5, 3) := by decide +kernel
theorem dX7_restore_7 : decode cX7_restore 7 = .ok (.iconst 0, 1) := by decide +kernel
theorem dX7_restore_8 : decode cX7_restore 8 = .ok (.ireturn, 1) := by decide +kernel
theorem dX7_restore_9 : decode cX7_restore 9 = .ok (.aload_n 0, 1) := by decide +kernel
theorem dX7_restore_10 : decode cX7_restore 10 = .ok (.getfield 35, 3) := by decide +kernel
theorem dX7_restore_13 : decode cX7_restore 13 = .ok (.aload_n 0, 1) := by decide +kernel
theorem dX7_restore_14 : decode cX7_restore 14 = .ok (.getfield 39, 3) := by decide +kernel
theorem dX7_restore_17 : decode cX7_restore 17 = .ok (.invokevirtual 314, 3) := by decide +kernel
theorem dX7_restore_20 : decode cX7_restore 20 = .ok (.aload_n 0, 1) := by decide +kernel
theorem dX7_restore_21 : decode cX7_restore 21 = .ok (.iconst 0, 1) := by decide +kernel
theorem dX7_restore_22 : decode cX7_restore 22 = .ok (.putfield 94, 3) := by decide +kernel
theorem dX7_restore_25 : decode cX7_restore 25 = .ok (.iconst 1, 1) := by decide +kernel
theorem dX7_restore_26 : decode cX7_restore 26 = .ok (.ireturn, 1) := by decide +kernel
theorem dX8_thrown_0 : decode cX8_thrown 0 = .ok (.aload_n 0, 1) := by decide +kernel
theorem dX8_thrown_1 : decode cX8_thrown 1 = .ok (.getfield 150, 3) := by decide +kernel
theorem dX8_thrown_4 : decode cX8_thrown 4 = .ok (.ireturn, 1) := by decide +kernel
theorem dX8_fail_0 : decode cX8_fail 0 = .ok (.aload_n 0, 1) := by decide +kernel
theorem dX8_fail_1 : decode cX8_fail 1 = .ok (.iload_n 1, 1) := by decide +kernel
theorem dX8_fail_2 : decode cX8_fail 2 = .ok (.putfield 150, 3) := by decide +kernel
theorem dX8_fail_5 : decode cX8_fail 5 = .ok (.iconst 0, 1) := by decide +kernel
theorem dX8_fail_6 : decode cX8_fail 6 = .ok (.ireturn, 1) := by decide +kernel
theorem dX8_isIn_0 : decode cX8_isIn 0 = .ok (.lload_n 0, 1) := by decide +kernel
theorem dX8_isIn_1 : decode cX8_isIn 1 = .ok (.lload_n 2, 1) := by decide +kernel
theorem dX8_isIn_2 : decode cX8_isIn 2 = .ok (.lcmp, 1) := by decide +kernel
theorem dX8_isIn_3 : decode cX8_isIn 3 = .ok (.ifCond .lt 14, 3) := by decide +kernel
theorem dX8_isIn_6 : decode cX8_isIn 6 = .ok (.lload_n 0, 1) := by decide +kernel
theorem dX8_isIn_7 : decode cX8_isIn 7 = .ok (.lload 4, 2) := by decide +kernel
theorem dX8_isIn_9 : decode cX8_isIn 9 = .ok (.lcmp, 1) := by decide +kernel
theorem dX8_isIn_10 : decode cX8_isIn 10 = .ok (.ifCond .gt 7, 3) := by decide +kernel
theorem dX8_isIn_13 : decode cX8_isIn 13 = .ok (.iconst 1, 1) := by decide +kernel
theorem dX8_isIn_14 : decode cX8_isIn 14 = .ok (.goto 4, 3) := by decide +kernel
theorem dX8_isIn_17 : decode cX8_isIn 17 = .ok (.iconst 0, 1) := by decide +kernel
theorem dX8_isIn_18 : decode cX8_isIn 18 = .ok (.ireturn, 1) := by decide +kernel
theorem dX8_isTown_0 : decode cX8_isTown 0 = .ok (.iload_n 1, 1) := by decide +kernel
theorem dX8_isTown_1 : decode cX8_isTown 1 = .ok (.i2l, 1) := by decide +kernel
theorem dX8_isTown_2 : decode cX8_isTown 2 = .ok (.lconst 0, 1) := by decide +kernel
theorem dX8_isTown_3 : decode cX8_isTown 3 = .ok (.aload_n 0, 1) := by decide +kernel
theorem dX8_isTown_4 : decode cX8_isTown 4 = .ok (.getfield 34, 3) := by decide +kernel
theorem dX8_isTown_7 : decode cX8_isTown 7 = .ok (.iconst 0, 1) := by decide +kernel
theorem dX8_isTown_8 : decode cX8_isTown 8 = .ok (.iaload, 1) := by decide +kernel
theorem dX8_isTown_9 : decode cX8_isTown 9 = .ok (.iconst 1, 1) := by decide +kernel
theorem dX8_isTown_10 : decode cX8_isTown 10 = .ok (.isub, 1) := by decide +kernel
theorem dX8_isTown_11 : decode cX8_isTown 11 = .ok (.i2l, 1) := by decide +kernel
theorem dX8_isTown_12 : decode cX8_isTown 12 = .ok (.invokestatic 153, 3) := by decide +kernel
theorem dX8_isTown_15 : decode cX8_isTown 15 = .ok (.ireturn, 1) := by decide +kernel
theorem dX8_isJudge_0 : decode cX8_isJudge 0 = .ok (.iload_n 1, 1) := by decide +kernel
theorem dX8_isJudge_1 : decode cX8_isJudge 1 = .ok (.i2l, 1) := by decide +kernel
theorem dX8_isJudge_2 : decode cX8_isJudge 2 = .ok (.lconst 0, 1) := by decide +kernel
theorem dX8_isJudge_3 : decode cX8_isJudge 3 = .ok (.aload_n 0, 1) := by decide +kernel
theorem dX8_isJudge_4 : decode cX8_isJudge 4 = .ok (.getfield 34, 3) := by decide +kernel
theorem dX8_isJudge_7 : decode cX8_isJudge 7 = .ok (.iconst 4, 1) := by decide +kernel
theorem dX8_isJudge_8 : decode cX8_isJudge 8 = .ok (.iaload, 1) := by decide +kernel
theorem dX8_isJudge_9 : decode cX8_isJudge 9 = .ok (.iconst 1, 1) := by decide +kernel
theorem dX8_isJudge_10 : decode cX8_isJudge 10 = .ok (.isub, 1) := by decide +kernel
theorem dX8_isJudge_11 : decode cX8_isJudge 11 = .ok (.i2l, 1) := by decide +kernel
theorem dX8_isJudge_12 : decode cX8_isJudge 12 = .ok (.invokestatic 153, 3) := by decide +kernel
theorem dX8_isJudge_15 : decode cX8_isJudge 15 = .ok (.ireturn, 1) := by decide +kernel
theorem dX8_isCase_0 : decode cX8_isCase 0 = .ok (.iload_n 1, 1) := by decide +kernel
theorem dX8_isCase_1 : decode cX8_isCase 1 = .ok (.i2l, 1) := by decide +kernel
theorem dX8_isCase_2 : decode cX8_isCase 2 = .ok (.lconst 0, 1) := by decide +kernel
theorem dX8_isCase_3 : decode cX8_isCase 3 = .ok (.aload_n 0, 1) := by decide +kernel
theorem dX8_isCase_4 : decode cX8_isCase 4 = .ok (.getfield 34, 3) := by decide +kernel
theorem dX8_isCase_7 : decode cX8_isCase 7 = .ok (.iconst 5, 1) := by decide +kernel
theorem dX8_isCase_8 : decode cX8_isCase 8 = .ok (.iaload, 1) := by decide +kernel
theorem dX8_isCase_9 : decode cX8_isCase 9 = .ok (.iconst 1, 1) := by decide +kernel
theorem dX8_isCase_10 : decode cX8_isCase 10 = .ok (.isub, 1) := by decide +kernel
theorem dX8_isCase_11 : decode cX8_isCase 11 = .ok (.i2l, 1) := by decide +kernel
theorem dX8_isCase_12 : decode cX8_isCase 12 = .ok (.invokestatic 153, 3) := by decide +kernel
theorem dX8_isCase_15 : decode cX8_isCase 15 = .ok (.ireturn, 1) := by decide +kernel
def f_X7_soonest_15   : Nat → Mem → PMem → Int32 → Int32 → Int32 → Option ((Int32 × Mem × PMem) ⊕ Nat)
  | 0, _, _, _, _, _ => none
  | fu + 1, I, P, v1, v3, v4 =>
    gd (decide ((P 7 0 0 2) < 2)) <|
    if (I 3 (P 7 0 0 2) 0 13) ≤ v4 then (some (Sum.inl (v3, I, P))) else ((f_X1_trioDay I P 0 v4).bind fun y1 =>
    if y1 = (-1 : Int32) then ((f_X7_soonest_15 fu) I P v1 v3 (v4 + (1 : Int32))) else (if v3 = (-1 : Int32) then ((f_X7_soonest_15 fu) I P v1 y1 (v4 + (1 : Int32))) else (if v1 = 0 then (if v3 ≤ y1 then ((f_X7_soonest_15 fu) I P v1 v3 (v4 + (1 : Int32))) else ((f_X7_soonest_15 fu) I P v1 y1 (v4 + (1 : Int32)))) else (if y1 ≤ v3 then ((f_X7_soonest_15 fu) I P v1 v3 (v4 + (1 : Int32))) else ((f_X7_soonest_15 fu) I P v1 y1 (v4 + (1 : Int32)))))))
theorem b_X7_soonest_15 (X : CX) (Q : State → Prop) {O : Nat → Int64} {D : Bool} {n : Nat} {r : (Int32 × Mem × PMem)}  : ∀ (fu : Nat) {I : Mem} {P : PMem} {v1 : Int32} {v3 : Int32} {v4 : Int32}, f_X7_soonest_15 fu I P v1 v3 v4 = some (Sum.inl r) → EndR X cX7_soonest RX7 6 (some .int) 9 n (some (.inl r.1)) r.2.1 r.2.2 O D Q → Here X cX7_soonest RX7 6 (some .int) 9 n 15 [some (.inr (.inr (7, 0, 0))), some (.inl v1), some (.inr (.inr (1, 0, 0))), some (.inl v3), some (.inl v4), none] [] I P O D n Q := by
  intro fu
  induction fu with
  | zero => intro I P v1 v3 v4 h E; cases h
  | succ fu ih =>
  intro I P v1 v3 v4 h E
  have H15 : ∀ (I : Mem) (P : PMem) (v1 : Int32) (v3 : Int32) (v4 : Int32), f_X7_soonest_15 fu I P v1 v3 v4 = some (Sum.inl r) → Here X cX7_soonest RX7 6 (some .int) 9 n 15 [some (.inr (.inr (7, 0, 0))), some (.inl v1), some (.inr (.inr (1, 0, 0))), some (.inl v3), some (.inl v4), none] [] I P O D n Q := fun _ _ _ _ _ b => ih b E
  simp only [f_X7_soonest_15] at h
  refine h_iload dX7_soonest_15 rfl ?_
  refine h_aload_n dX7_soonest_17 rfl ?_
  refine g_X7_16  dX7_soonest_18 ?_
  obtain ⟨g1, h⟩ := gd_some h
  have w1 := of_decide_eq_true g1
  refine g_X7_110 (by omega) dX7_soonest_21 ?_
  refine h_icmp_ge (tgt := 74) dX7_soonest_24 (by decide) (fun q1 => ?_) (fun q1 => ?_)
  · rw [if_pos q1] at h
    refine h_iload_n dX7_soonest_74 rfl ?_
    cases h
    exact h_iret dX7_soonest_75 rfl E
  · rw [if_neg q1] at h
    refine h_aload_n dX7_soonest_27 rfl ?_
    refine h_iload dX7_soonest_28 rfl ?_
    obtain ⟨y1, hh1, h⟩ := obd_some h
    refine h_cVi [.inl v4] (m_X1_trioDay (by decide) hh1) cw_X7_217 dX7_soonest_30 rfl (ok_1 (by decide)) (by decide) rfl (Or.inr rfl) rfl ?_
    refine h_istore dX7_soonest_33 (by decide) rfl ?_
    refine h_iload dX7_soonest_35 rfl ?_
    refine h_iconst (-1 : Int32) dX7_soonest_37 k_iconst_m1 ?_
    refine h_icmp_eq (tgt := 68) dX7_soonest_38 (by decide) (fun q2 => ?_) (fun q2 => ?_)
    · rw [if_pos q2] at h
      refine h_iinc (1 : Int32) dX7_soonest_68 rfl k_iinc_1 (by decide) rfl ?_
      refine h_goto (tgt := 15) dX7_soonest_71 (by decide) ?_
      exact h_mask [true, true, true, true, true, false] (H15 _ _ _ _ _ h)
    · rw [if_neg q2] at h
      refine h_iload_n dX7_soonest_41 rfl ?_
      refine h_iconst (-1 : Int32) dX7_soonest_42 k_iconst_m1 ?_
      refine h_icmp_eq (tgt := 65) dX7_soonest_43 (by decide) (fun q3 => ?_) (fun q3 => ?_)
      · rw [if_pos q3] at h
        refine h_iload dX7_soonest_65 rfl ?_
        refine h_istore_n dX7_soonest_67 (by decide) rfl ?_
        refine h_iinc (1 : Int32) dX7_soonest_68 rfl k_iinc_1 (by decide) rfl ?_
        refine h_goto (tgt := 15) dX7_soonest_71 (by decide) ?_
        exact h_mask [true, true, true, true, true, false] (H15 _ _ _ _ _ h)
      · rw [if_neg q3] at h
        refine h_iload_n dX7_soonest_46 rfl ?_
        refine h_if_ne (tgt := 59) dX7_soonest_47 (by decide) (fun q4 => ?_) (fun q4 => ?_)
        · rw [if_neg q4] at h
          refine h_iload dX7_soonest_59 rfl ?_
          refine h_iload_n dX7_soonest_61 rfl ?_
          refine h_icmp_le (tgt := 68) dX7_soonest_62 (by decide) (fun q5 => ?_) (fun q5 => ?_)
          · rw [if_pos q5] at h
            refine h_iinc (1 : Int32) dX7_soonest_68 rfl k_iinc_1 (by decide) rfl ?_
            refine h_goto (tgt := 15) dX7_soonest_71 (by decide) ?_
            exact h_mask [true, true, true, true, true, false] (H15 _ _ _ _ _ h)
          · rw [if_neg q5] at h
            refine h_iload dX7_soonest_65 rfl ?_
            refine h_istore_n dX7_soonest_67 (by decide) rfl ?_
            refine h_iinc (1 : Int32) dX7_soonest_68 rfl k_iinc_1 (by decide) rfl ?_
            refine h_goto (tgt := 15) dX7_soonest_71 (by decide) ?_
            exact h_mask [true, true, true, true, true, false] (H15 _ _ _ _ _ h)
        · rw [if_pos q4] at h
          refine h_iload dX7_soonest_50 rfl ?_
          refine h_iload_n dX7_soonest_52 rfl ?_
          refine h_icmp_ge (tgt := 68) dX7_soonest_53 (by decide) (fun q6 => ?_) (fun q6 => ?_)
          · rw [if_pos q6] at h
            refine h_iinc (1 : Int32) dX7_soonest_68 rfl k_iinc_1 (by decide) rfl ?_
            refine h_goto (tgt := 15) dX7_soonest_71 (by decide) ?_
            exact h_mask [true, true, true, true, true, false] (H15 _ _ _ _ _ h)
          · rw [if_neg q6] at h
            refine h_goto (tgt := 65) dX7_soonest_56 (by decide) ?_
            refine h_iload dX7_soonest_65 rfl ?_
            refine h_istore_n dX7_soonest_67 (by decide) rfl ?_
            refine h_iinc (1 : Int32) dX7_soonest_68 rfl k_iinc_1 (by decide) rfl ?_
            refine h_goto (tgt := 15) dX7_soonest_71 (by decide) ?_
            exact h_mask [true, true, true, true, true, false] (H15 _ _ _ _ _ h)
theorem bx_X7_soonest_15 (X : CX) (Q : State → Prop) {O : Nat → Int64} {I0 : Mem} {P0 : PMem} {D : Bool} {n : Nat} {r : Nat}  : ∀ (fu : Nat) {I : Mem} {P : PMem} {v1 : Int32} {v3 : Int32} {v4 : Int32}, f_X7_soonest_15 fu I P v1 v3 v4 = some (Sum.inr r) → EndX X cX7_soonest RX7 6 (some .int) 9 (n + 1) r I0 P0 O D Q → Here X cX7_soonest RX7 6 (some .int) 9 (n + 1) 15 [some (.inr (.inr (7, 0, 0))), some (.inl v1), some (.inr (.inr (1, 0, 0))), some (.inl v3), some (.inl v4), none] [] I P O D n Q := by
  intro fu
  induction fu with
  | zero => intro I P v1 v3 v4 h E; cases h
  | succ fu ih =>
  intro I P v1 v3 v4 h E
  have H15 : ∀ (I : Mem) (P : PMem) (v1 : Int32) (v3 : Int32) (v4 : Int32), f_X7_soonest_15 fu I P v1 v3 v4 = some (Sum.inr r) → Here X cX7_soonest RX7 6 (some .int) 9 (n + 1) 15 [some (.inr (.inr (7, 0, 0))), some (.inl v1), some (.inr (.inr (1, 0, 0))), some (.inl v3), some (.inl v4), none] [] I P O D n Q := fun _ _ _ _ _ b => ih b E
  simp only [f_X7_soonest_15] at h
  refine h_iload dX7_soonest_15 rfl ?_
  refine h_aload_n dX7_soonest_17 rfl ?_
  refine g_X7_16  dX7_soonest_18 ?_
  obtain ⟨g1, h⟩ := gd_some h
  have w1 := of_decide_eq_true g1
  refine g_X7_110 (by omega) dX7_soonest_21 ?_
  refine h_icmp_ge (tgt := 74) dX7_soonest_24 (by decide) (fun q1 => ?_) (fun q1 => ?_)
  · rw [if_pos q1] at h
    refine h_iload_n dX7_soonest_74 rfl ?_
    cases h
  · rw [if_neg q1] at h
    refine h_aload_n dX7_soonest_27 rfl ?_
    refine h_iload dX7_soonest_28 rfl ?_
    obtain ⟨y1, hh1, h⟩ := obd_some h
    refine h_cVi [.inl v4] (m_X1_trioDay (by decide) hh1) cw_X7_217 dX7_soonest_30 rfl (ok_1 (by decide)) (by decide) rfl (Or.inr rfl) rfl ?_
    refine h_istore dX7_soonest_33 (by decide) rfl ?_
    refine h_iload dX7_soonest_35 rfl ?_
    refine h_iconst (-1 : Int32) dX7_soonest_37 k_iconst_m1 ?_
    refine h_icmp_eq (tgt := 68) dX7_soonest_38 (by decide) (fun q2 => ?_) (fun q2 => ?_)
    · rw [if_pos q2] at h
      refine h_iinc (1 : Int32) dX7_soonest_68 rfl k_iinc_1 (by decide) rfl ?_
      refine h_goto (tgt := 15) dX7_soonest_71 (by decide) ?_
      exact h_mask [true, true, true, true, true, false] (H15 _ _ _ _ _ h)
    · rw [if_neg q2] at h
      refine h_iload_n dX7_soonest_41 rfl ?_
      refine h_iconst (-1 : Int32) dX7_soonest_42 k_iconst_m1 ?_
      refine h_icmp_eq (tgt := 65) dX7_soonest_43 (by decide) (fun q3 => ?_) (fun q3 => ?_)
      · rw [if_pos q3] at h
        refine h_iload dX7_soonest_65 rfl ?_
        refine h_istore_n dX7_soonest_67 (by decide) rfl ?_
        refine h_iinc (1 : Int32) dX7_soonest_68 rfl k_iinc_1 (by decide) rfl ?_
        refine h_goto (tgt := 15) dX7_soonest_71 (by decide) ?_
        exact h_mask [true, true, true, true, true, false] (H15 _ _ _ _ _ h)
      · rw [if_neg q3] at h
        refine h_iload_n dX7_soonest_46 rfl ?_
        refine h_if_ne (tgt := 59) dX7_soonest_47 (by decide) (fun q4 => ?_) (fun q4 => ?_)
        · rw [if_neg q4] at h
          refine h_iload dX7_soonest_59 rfl ?_
          refine h_iload_n dX7_soonest_61 rfl ?_
          refine h_icmp_le (tgt := 68) dX7_soonest_62 (by decide) (fun q5 => ?_) (fun q5 => ?_)
          · rw [if_pos q5] at h
            refine h_iinc (1 : Int32) dX7_soonest_68 rfl k_iinc_1 (by decide) rfl ?_
            refine h_goto (tgt := 15) dX7_soonest_71 (by decide) ?_
            exact h_mask [true, true, true, true, true, false] (H15 _ _ _ _ _ h)
          · rw [if_neg q5] at h
            refine h_iload dX7_soonest_65 rfl ?_
            refine h_istore_n dX7_soonest_67 (by decide) rfl ?_
            refine h_iinc (1 : Int32) dX7_soonest_68 rfl k_iinc_1 (by decide) rfl ?_
            refine h_goto (tgt := 15) dX7_soonest_71 (by decide) ?_
            exact h_mask [true, true, true, true, true, false] (H15 _ _ _ _ _ h)
        · rw [if_pos q4] at h
          refine h_iload dX7_soonest_50 rfl ?_
          refine h_iload_n dX7_soonest_52 rfl ?_
          refine h_icmp_ge (tgt := 68) dX7_soonest_53 (by decide) (fun q6 => ?_) (fun q6 => ?_)
          · rw [if_pos q6] at h
            refine h_iinc (1 : Int32) dX7_soonest_68 rfl k_iinc_1 (by decide) rfl ?_
            refine h_goto (tgt := 15) dX7_soonest_71 (by decide) ?_
            exact h_mask [true, true, true, true, true, false] (H15 _ _ _ _ _ h)
          · rw [if_neg q6] at h
            refine h_goto (tgt := 65) dX7_soonest_56 (by decide) ?_
            refine h_iload dX7_soonest_65 rfl ?_
            refine h_istore_n dX7_soonest_67 (by decide) rfl ?_
            refine h_iinc (1 : Int32) dX7_soonest_68 rfl k_iinc_1 (by decide) rfl ?_
            refine h_goto (tgt := 15) dX7_soonest_71 (by decide) ?_
            exact h_mask [true, true, true, true, true, false] (H15 _ _ _ _ _ h)
def f_X7_soonest   (I : Mem) (P : PMem) (v1 : Int32) : Option ((Int32 × Mem × PMem) ⊕ Nat) :=
  thb (f_X7_requireWhat I v1 (1 : Int32)) fun y1 =>
  (f_X7_settledCourt I P).bind fun y2 =>
  f_X7_soonest_15 FU y2.1 y2.2 v1 (-1 : Int32) (0 : Int32)
theorem b_X7_soonest (X : CX) (Q : State → Prop) {I : Mem} {P : PMem} {O : Nat → Int64} {D : Bool} {n : Nat} {v1 : Int32} {r : (Int32 × Mem × PMem)}  (h : f_X7_soonest I P v1 = some (Sum.inl r)) (E : EndR X cX7_soonest RX7 6 (some .int) 9 n (some (.inl r.1)) r.2.1 r.2.2 O D Q) : Here X cX7_soonest RX7 6 (some .int) 9 n 0 [some (.inr (.inr (7, 0, 0))), some (.inl v1), none, none, none, none] [] I P O D n Q := by
  unfold f_X7_soonest at h
  refine h_iload_n dX7_soonest_0 rfl ?_
  refine h_iconst (1 : Int32) dX7_soonest_1 k_iconst_1 ?_
  obtain ⟨y1, hh1, h⟩ := thb_R h
  refine h_cSv [.inl v1, .inl (1 : Int32)] (m_X7_requireWhat  hh1) cs_X7_152 dX7_soonest_2 rfl (by decide) rfl (Or.inr rfl) rfl ?_
  refine h_aload_n dX7_soonest_5 rfl ?_
  obtain ⟨y2, hh2, h⟩ := obd_some h
  refine h_cVa [] (m_X7_settledCourt  hh2) cw_X7_131 dX7_soonest_6 rfl ok_7 (by decide) rfl (Or.inr rfl) rfl ?_
  refine h_astore_n dX7_soonest_9 (by decide) rfl ?_
  refine h_iconst (-1 : Int32) dX7_soonest_10 k_iconst_m1 ?_
  refine h_istore_n dX7_soonest_11 (by decide) rfl ?_
  refine h_iconst (0 : Int32) dX7_soonest_12 k_iconst_0 ?_
  refine h_istore dX7_soonest_13 (by decide) rfl ?_
  exact (b_X7_soonest_15 X Q FU  h E)
theorem bx_X7_soonest (X : CX) (Q : State → Prop) {I : Mem} {P : PMem} {O : Nat → Int64} {D : Bool} {n : Nat} {v1 : Int32} {r : Nat}  (h : f_X7_soonest I P v1 = some (Sum.inr r)) (E : EndX X cX7_soonest RX7 6 (some .int) 9 (n + 1) r I P O D Q) : Here X cX7_soonest RX7 6 (some .int) 9 (n + 1) 0 [some (.inr (.inr (7, 0, 0))), some (.inl v1), none, none, none, none] [] I P O D n Q := by
  unfold f_X7_soonest at h
  refine h_iload_n dX7_soonest_0 rfl ?_
  refine h_iconst (1 : Int32) dX7_soonest_1 k_iconst_1 ?_
  rcases thb_X h with hh1 | ⟨y1, hh1, h⟩
  · exact h_callSX (as := [.inl v1, .inl (1 : Int32)]) (mx_X7_requireWhat  hh1) cs_X7_152 dX7_soonest_2 rfl (by decide) rfl rfl E
  refine h_cSv [.inl v1, .inl (1 : Int32)] (m_X7_requireWhat  hh1) cs_X7_152 dX7_soonest_2 rfl (by decide) rfl (Or.inr rfl) rfl ?_
  refine h_aload_n dX7_soonest_5 rfl ?_
  obtain ⟨y2, hh2, h⟩ := obd_some h
  refine h_cVa [] (m_X7_settledCourt  hh2) cw_X7_131 dX7_soonest_6 rfl ok_7 (by decide) rfl (Or.inr rfl) rfl ?_
  refine h_astore_n dX7_soonest_9 (by decide) rfl ?_
  refine h_iconst (-1 : Int32) dX7_soonest_10 k_iconst_m1 ?_
  refine h_istore_n dX7_soonest_11 (by decide) rfl ?_
  refine h_iconst (0 : Int32) dX7_soonest_12 k_iconst_0 ?_
  refine h_istore dX7_soonest_13 (by decide) rfl ?_
  exact (bx_X7_soonest_15 X Q FU  h E)
theorem m_X7_soonest {I : Mem} {P : PMem} {O : Nat → Int64} {D : Bool} {n : Nat} {v1 : Int32} {r : (Int32 × Mem × PMem)}  (h : f_X7_soonest I P v1 = some (Sum.inl r)) : MethR yX7_soonest cX7_soonest 6 (some .int) 9 [.inr (.inr (7, 0, 0)), .inl v1] I P O D n (some (.inl r.1)) r.2.1 r.2.2 O D n := meth_R (Nat.le_refl _) (by decide) rfl (Nat.le_of_ble_eq_true rfl) rfl (fun X Q E => b_X7_soonest X Q  h E)
theorem mx_X7_soonest {I : Mem} {P : PMem} {O : Nat → Int64} {D : Bool} {n : Nat} {v1 : Int32} {r : Nat}  (h : f_X7_soonest I P v1 = some (Sum.inr r)) : MethX yX7_soonest cX7_soonest 6 (some .int) 9 [.inr (.inr (7, 0, 0)), .inl v1] I P O D n r I P O D (n + 1) := meth_X (Nat.le_succ _) (by decide) rfl (Nat.le_of_ble_eq_true rfl) rfl (fun X Q E => bx_X7_soonest X Q  h E)
def f_X7_see_56  (P : PMem) (I : Mem) (s0 : Int32) (s1 : Int32) (s2 : Int32) : Option ((Int32 × Mem) ⊕ Nat) :=
  (f_X6_add 4 I s2 s1 s0).bind fun y1 =>
  some (Sum.inl ((y1 6 4 0 3), y1))
theorem b_X7_see_56 (X : CX) (Q : State → Prop) {I : Mem} {P : PMem} {O : Nat → Int64} {D : Bool} {n : Nat} {s0 : Int32} {s1 : Int32} {s2 : Int32} {r : (Int32 × Mem)}  (h : f_X7_see_56 P I s0 s1 s2 = some (Sum.inl r)) (E : EndR X cX7_see RX7 4 (some .int) 9 n (some (.inl r.1)) r.2 P O D Q) : Here X cX7_see RX7 4 (some .int) 9 n 56 [some (.inr (.inr (7, 0, 0))), none, none, none] [.inl s0, .inl s1, .inl s2, .inr (.inr (6, 4, 0))] I P O D n Q := by
  unfold f_X7_see_56 at h
  obtain ⟨y1, hh1, h⟩ := obd_some h
  refine h_cVv [.inl s2, .inl s1, .inl s0] (m_X6_add (by decide) hh1) cw_X7_241 dX7_see_56 rfl (ok_6 (by decide)) (by decide) rfl (Or.inr rfl) rfl ?_
  refine h_aload_n dX7_see_59 rfl ?_
  refine g_X7_35  dX7_see_60 ?_
  refine g_X7_141 (by decide) dX7_see_63 ?_
  refine g_X7_120 (by decide) dX7_see_66 ?_
  cases h
  exact h_iret dX7_see_69 rfl E
theorem bx_X7_see_56 (X : CX) (Q : State → Prop) {I : Mem} {P : PMem} {O : Nat → Int64} {I0 : Mem} {P0 : PMem} {D : Bool} {n : Nat} {s0 : Int32} {s1 : Int32} {s2 : Int32} {r : Nat}  (h : f_X7_see_56 P I s0 s1 s2 = some (Sum.inr r)) (E : EndX X cX7_see RX7 4 (some .int) 9 (n + 1) r I0 P0 O D Q) : Here X cX7_see RX7 4 (some .int) 9 (n + 1) 56 [some (.inr (.inr (7, 0, 0))), none, none, none] [.inl s0, .inl s1, .inl s2, .inr (.inr (6, 4, 0))] I P O D n Q := by
  unfold f_X7_see_56 at h
  obtain ⟨y1, hh1, h⟩ := obd_some h
  refine h_cVv [.inl s2, .inl s1, .inl s0] (m_X6_add (by decide) hh1) cw_X7_241 dX7_see_56 rfl (ok_6 (by decide)) (by decide) rfl (Or.inr rfl) rfl ?_
  refine h_aload_n dX7_see_59 rfl ?_
  refine g_X7_35  dX7_see_60 ?_
  refine g_X7_141 (by decide) dX7_see_63 ?_
  refine g_X7_120 (by decide) dX7_see_66 ?_
  cases h
def f_X7_see  (P : PMem) (I : Mem) (v1 : Int32) (v2 : Int32) (v3 : Int32) : Option ((Int32 × Mem) ⊕ Nat) :=
  thb (f_X7_requireCase I P v1) fun y1 =>
  thb (f_X7_requireJudge I P v2) fun y2 =>
  (f_X6_isFull I 4).bind fun y3 =>
  if y3 = 0 then (if v3 = 0 then (f_X7_see_56 P I (0 : Int32) v2 v1) else (f_X7_see_56 P I (1 : Int32) v2 v1)) else (bnd (upd4 I 10 0 0 2 ((I 10 0 0 2) + (1 : Int32))) fun I1' =>
  some (Sum.inl ((-1 : Int32), I1')))
theorem b_X7_see (X : CX) (Q : State → Prop) {I : Mem} {P : PMem} {O : Nat → Int64} {D : Bool} {n : Nat} {v1 : Int32} {v2 : Int32} {v3 : Int32} {r : (Int32 × Mem)}  (h : f_X7_see P I v1 v2 v3 = some (Sum.inl r)) (E : EndR X cX7_see RX7 4 (some .int) 9 n (some (.inl r.1)) r.2 P O D Q) : Here X cX7_see RX7 4 (some .int) 9 n 0 [some (.inr (.inr (7, 0, 0))), some (.inl v1), some (.inl v2), some (.inl v3)] [] I P O D n Q := by
  unfold f_X7_see at h
  refine h_aload_n dX7_see_0 rfl ?_
  refine h_iload_n dX7_see_1 rfl ?_
  obtain ⟨y1, hh1, h⟩ := thb_R h
  refine h_cVv [.inl v1] (m_X7_requireCase  hh1) cw_X7_194 dX7_see_2 rfl ok_7 (by decide) rfl (Or.inr rfl) rfl ?_
  refine h_aload_n dX7_see_5 rfl ?_
  refine h_iload_n dX7_see_6 rfl ?_
  obtain ⟨y2, hh2, h⟩ := thb_R h
  refine h_cVv [.inl v2] (m_X7_requireJudge  hh2) cw_X7_163 dX7_see_7 rfl ok_7 (by decide) rfl (Or.inr rfl) rfl ?_
  refine h_aload_n dX7_see_10 rfl ?_
  refine g_X7_35  dX7_see_11 ?_
  refine g_X7_141 (by decide) dX7_see_14 ?_
  obtain ⟨y3, hh3, h⟩ := obd_some h
  refine h_cVi [] (m_X6_isFull (by decide) hh3) cw_X7_237 dX7_see_17 rfl (ok_6 (by decide)) (by decide) rfl (Or.inr rfl) rfl ?_
  refine h_if_eq (tgt := 38) dX7_see_20 (by decide) (fun q1 => ?_) (fun q1 => ?_)
  · rw [if_pos q1] at h
    refine h_aload_n dX7_see_38 rfl ?_
    refine g_X7_35  dX7_see_39 ?_
    refine g_X7_141 (by decide) dX7_see_42 ?_
    refine h_iload_n dX7_see_45 rfl ?_
    refine h_iload_n dX7_see_46 rfl ?_
    refine h_iload_n dX7_see_47 rfl ?_
    refine h_if_eq (tgt := 55) dX7_see_48 (by decide) (fun q2 => ?_) (fun q2 => ?_)
    · rw [if_pos q2] at h
      refine h_iconst (0 : Int32) dX7_see_55 k_iconst_0 ?_
      exact h_mask [true, false, false, false] (b_X7_see_56 X Q  h E)
    · rw [if_neg q2] at h
      refine h_iconst (1 : Int32) dX7_see_51 k_iconst_1 ?_
      refine h_goto (tgt := 56) dX7_see_52 (by decide) ?_
      exact h_mask [true, false, false, false] (b_X7_see_56 X Q  h E)
  · rw [if_neg q1] at h
    refine h_aload_n dX7_see_23 rfl ?_
    refine g_X7_35  dX7_see_24 ?_
    refine g_X7_82 (by decide) dX7_see_27 ?_
    refine h_iconst (2 : Int32) dX7_see_30 k_iconst_2 ?_
    refine h_dup2 dX7_see_31 (fun _ => rfl) (fun _ => rfl) ?_
    refine al_10 (by decide) 2 cl_2 dX7_see_32 rfl ?_
    refine h_iconst (1 : Int32) dX7_see_33 k_iconst_1 ?_
    refine h_iadd dX7_see_34 ?_
    obtain ⟨I1', e1, h⟩ := bnd_some h
    refine as_10 (by decide) 2 cl_2 dX7_see_35 rfl ?_
    refine h_nmI e1 ?_
    refine h_iconst (-1 : Int32) dX7_see_36 k_iconst_m1 ?_
    cases h
    exact h_iret dX7_see_37 rfl E
theorem bx_X7_see (X : CX) (Q : State → Prop) {I : Mem} {P : PMem} {O : Nat → Int64} {D : Bool} {n : Nat} {v1 : Int32} {v2 : Int32} {v3 : Int32} {r : Nat}  (h : f_X7_see P I v1 v2 v3 = some (Sum.inr r)) (E : EndX X cX7_see RX7 4 (some .int) 9 (n + 1) r I P O D Q) : Here X cX7_see RX7 4 (some .int) 9 (n + 1) 0 [some (.inr (.inr (7, 0, 0))), some (.inl v1), some (.inl v2), some (.inl v3)] [] I P O D n Q := by
  unfold f_X7_see at h
  refine h_aload_n dX7_see_0 rfl ?_
  refine h_iload_n dX7_see_1 rfl ?_
  rcases thb_X h with hh1 | ⟨y1, hh1, h⟩
  · exact h_callVX (as := [.inl v1]) (mx_X7_requireCase  hh1) cw_X7_194 dX7_see_2 rfl ok_7 (by decide) rfl rfl E
  refine h_cVv [.inl v1] (m_X7_requireCase  hh1) cw_X7_194 dX7_see_2 rfl ok_7 (by decide) rfl (Or.inr rfl) rfl ?_
  refine h_aload_n dX7_see_5 rfl ?_
  refine h_iload_n dX7_see_6 rfl ?_
  rcases thb_X h with hh2 | ⟨y2, hh2, h⟩
  · exact h_callVX (as := [.inl v2]) (mx_X7_requireJudge  hh2) cw_X7_163 dX7_see_7 rfl ok_7 (by decide) rfl rfl E
  refine h_cVv [.inl v2] (m_X7_requireJudge  hh2) cw_X7_163 dX7_see_7 rfl ok_7 (by decide) rfl (Or.inr rfl) rfl ?_
  refine h_aload_n dX7_see_10 rfl ?_
  refine g_X7_35  dX7_see_11 ?_
  refine g_X7_141 (by decide) dX7_see_14 ?_
  obtain ⟨y3, hh3, h⟩ := obd_some h
  refine h_cVi [] (m_X6_isFull (by decide) hh3) cw_X7_237 dX7_see_17 rfl (ok_6 (by decide)) (by decide) rfl (Or.inr rfl) rfl ?_
  refine h_if_eq (tgt := 38) dX7_see_20 (by decide) (fun q1 => ?_) (fun q1 => ?_)
  · rw [if_pos q1] at h
    refine h_aload_n dX7_see_38 rfl ?_
    refine g_X7_35  dX7_see_39 ?_
    refine g_X7_141 (by decide) dX7_see_42 ?_
    refine h_iload_n dX7_see_45 rfl ?_
    refine h_iload_n dX7_see_46 rfl ?_
    refine h_iload_n dX7_see_47 rfl ?_
    refine h_if_eq (tgt := 55) dX7_see_48 (by decide) (fun q2 => ?_) (fun q2 => ?_)
    · rw [if_pos q2] at h
      refine h_iconst (0 : Int32) dX7_see_55 k_iconst_0 ?_
      exact h_mask [true, false, false, false] (bx_X7_see_56 X Q  h E)
    · rw [if_neg q2] at h
      refine h_iconst (1 : Int32) dX7_see_51 k_iconst_1 ?_
      refine h_goto (tgt := 56) dX7_see_52 (by decide) ?_
      exact h_mask [true, false, false, false] (bx_X7_see_56 X Q  h E)
  · rw [if_neg q1] at h
    refine h_aload_n dX7_see_23 rfl ?_
    refine g_X7_35  dX7_see_24 ?_
    refine g_X7_82 (by decide) dX7_see_27 ?_
    refine h_iconst (2 : Int32) dX7_see_30 k_iconst_2 ?_
    refine h_dup2 dX7_see_31 (fun _ => rfl) (fun _ => rfl) ?_
    refine al_10 (by decide) 2 cl_2 dX7_see_32 rfl ?_
    refine h_iconst (1 : Int32) dX7_see_33 k_iconst_1 ?_
    refine h_iadd dX7_see_34 ?_
    obtain ⟨I1', e1, h⟩ := bnd_some h
    refine as_10 (by decide) 2 cl_2 dX7_see_35 rfl ?_
    refine h_nmI e1 ?_
    refine h_iconst (-1 : Int32) dX7_see_36 k_iconst_m1 ?_
    cases h
theorem m_X7_see {I : Mem} {P : PMem} {O : Nat → Int64} {D : Bool} {n : Nat} {v1 : Int32} {v2 : Int32} {v3 : Int32} {r : (Int32 × Mem)}  (h : f_X7_see P I v1 v2 v3 = some (Sum.inl r)) : MethR yX7_see cX7_see 4 (some .int) 9 [.inr (.inr (7, 0, 0)), .inl v1, .inl v2, .inl v3] I P O D n (some (.inl r.1)) r.2 P O D n := meth_R (Nat.le_refl _) (by decide) rfl (Nat.le_of_ble_eq_true rfl) rfl (fun X Q E => b_X7_see X Q  h E)
theorem mx_X7_see {I : Mem} {P : PMem} {O : Nat → Int64} {D : Bool} {n : Nat} {v1 : Int32} {v2 : Int32} {v3 : Int32} {r : Nat}  (h : f_X7_see P I v1 v2 v3 = some (Sum.inr r)) : MethX yX7_see cX7_see 4 (some .int) 9 [.inr (.inr (7, 0, 0)), .inl v1, .inl v2, .inl v3] I P O D n r I P O D (n + 1) := meth_X (Nat.le_succ _) (by decide) rfl (Nat.le_of_ble_eq_true rfl) rfl (fun X Q E => bx_X7_see X Q  h E)
def f_X7_forget   (I : Mem) : Option (Int32 × Mem) :=
  if (I 6 4 0 3) = 0 then (some ((-1 : Int32), I)) else ((f_X6_dropLast 4 I).bind fun y1 =>
  some ((y1 6 4 0 3), y1))
theorem b_X7_forget (X : CX) (Q : State → Prop) {I : Mem} {P : PMem} {O : Nat → Int64} {D : Bool} {n : Nat} {r : (Int32 × Mem)}  (h : f_X7_forget I = some r) (E : EndR X cX7_forget RX7 1 (some .int) 3 n (some (.inl r.1)) r.2 P O D Q) : Here X cX7_forget RX7 1 (some .int) 3 n 0 [some (.inr (.inr (7, 0, 0)))] [] I P O D n Q := by
  unfold f_X7_forget at h
  refine h_aload_n dX7_forget_0 rfl ?_
  refine g_X7_35  dX7_forget_1 ?_
  refine g_X7_141 (by decide) dX7_forget_4 ?_
  refine g_X7_120 (by decide) dX7_forget_7 ?_
  refine h_if_ne (tgt := 15) dX7_forget_10 (by decide) (fun q1 => ?_) (fun q1 => ?_)
  · rw [if_neg q1] at h
    refine h_aload_n dX7_forget_15 rfl ?_
    refine g_X7_35  dX7_forget_16 ?_
    refine g_X7_141 (by decide) dX7_forget_19 ?_
    obtain ⟨y1, hh1, h⟩ := obd_some h
    refine h_cVv [] (m_X6_dropLast (by decide) hh1) cw_X7_281 dX7_forget_22 rfl (ok_6 (by decide)) (by decide) rfl (Or.inr rfl) rfl ?_
    refine h_aload_n dX7_forget_25 rfl ?_
    refine g_X7_35  dX7_forget_26 ?_
    refine g_X7_141 (by decide) dX7_forget_29 ?_
    refine g_X7_120 (by decide) dX7_forget_32 ?_
    cases h
    exact h_iret dX7_forget_35 rfl E
  · rw [if_pos q1] at h
    refine h_iconst (-1 : Int32) dX7_forget_13 k_iconst_m1 ?_
    cases h
    exact h_iret dX7_forget_14 rfl E
theorem m_X7_forget {I : Mem} {P : PMem} {O : Nat → Int64} {D : Bool} {n : Nat}  {r : (Int32 × Mem)}  (h : f_X7_forget I = some r) : MethR yX7_forget cX7_forget 1 (some .int) 3 [.inr (.inr (7, 0, 0))] I P O D n (some (.inl r.1)) r.2 P O D n := meth_R (Nat.le_refl _) (by decide) rfl (Nat.le_of_ble_eq_true rfl) rfl (fun X Q E => b_X7_forget X Q  h E)
def f_X7_sent_54 (k44 : Mem → PMem → Int32 → Int32 → Int32 → Int32 → Int32 → Option ((Int32 × Mem × PMem) ⊕ Nat))  : Nat → Mem → PMem → Int32 → Int32 → Int32 → Int32 → Int32 → Int32 → Option ((Int32 × Mem × PMem) ⊕ Nat)
  | 0, _, _, _, _, _, _, _, _ => none
  | fu + 1, I, P, v1, v2, v4, v5, v6, v7 =>
    gd (decide ((P 7 0 0 2) < 2)) <|
    if (I 3 (P 7 0 0 2) 0 0) ≤ v7 then (k44 I P v1 v2 v4 v5 (v6 + (1 : Int32))) else ((f_X1_reachedByWord I P 0 v1 v7 v6).bind fun y1 =>
    (f_X1_isAllAsSeen I P 0 v1 y1).bind fun y2 =>
    if y2 = 0 then ((f_X7_sent_54 k44 fu) I P v1 v2 v4 v5 v6 (v7 + (1 : Int32))) else (if v5 = (-1 : Int32) then (bnd (((100 : Int32) * v6) + v7) fun x1 =>
    (f_X7_sent_54 k44 fu) I P v1 v2 (v4 + (1 : Int32)) x1 v6 (v7 + (1 : Int32))) else ((f_X7_sent_54 k44 fu) I P v1 v2 (v4 + (1 : Int32)) v5 v6 (v7 + (1 : Int32)))))
theorem b_X7_sent_54 (X : CX) (Q : State → Prop) {O : Nat → Int64} {D : Bool} {n : Nat} {k44 : Mem → PMem → Int32 → Int32 → Int32 → Int32 → Int32 → Option ((Int32 × Mem × PMem) ⊕ Nat)} {r : (Int32 × Mem × PMem)}  (H44 : ∀ (I : Mem) (P : PMem) (v1 : Int32) (v2 : Int32) (v4 : Int32) (v5 : Int32) (v6 : Int32), k44 I P v1 v2 v4 v5 v6 = some (Sum.inl r) → Here X cX7_sent RX7 8 (some .int) 9 n 44 [some (.inr (.inr (7, 0, 0))), some (.inl v1), some (.inl v2), some (.inr (.inr (1, 0, 0))), some (.inl v4), some (.inl v5), some (.inl v6), none] [] I P O D n Q) : ∀ (fu : Nat) {I : Mem} {P : PMem} {v1 : Int32} {v2 : Int32} {v4 : Int32} {v5 : Int32} {v6 : Int32} {v7 : Int32}, f_X7_sent_54 k44 fu I P v1 v2 v4 v5 v6 v7 = some (Sum.inl r) → EndR X cX7_sent RX7 8 (some .int) 9 n (some (.inl r.1)) r.2.1 r.2.2 O D Q → Here X cX7_sent RX7 8 (some .int) 9 n 54 [some (.inr (.inr (7, 0, 0))), some (.inl v1), some (.inl v2), some (.inr (.inr (1, 0, 0))), some (.inl v4), some (.inl v5), some (.inl v6), some (.inl v7)] [] I P O D n Q := by
  intro fu
  induction fu with
  | zero => intro I P v1 v2 v4 v5 v6 v7 h E; cases h
  | succ fu ih =>
  intro I P v1 v2 v4 v5 v6 v7 h E
  have H54 : ∀ (I : Mem) (P : PMem) (v1 : Int32) (v2 : Int32) (v4 : Int32) (v5 : Int32) (v6 : Int32) (v7 : Int32), f_X7_sent_54 k44 fu I P v1 v2 v4 v5 v6 v7 = some (Sum.inl r) → Here X cX7_sent RX7 8 (some .int) 9 n 54 [some (.inr (.inr (7, 0, 0))), some (.inl v1), some (.inl v2), some (.inr (.inr (1, 0, 0))), some (.inl v4), some (.inl v5), some (.inl v6), some (.inl v7)] [] I P O D n Q := fun _ _ _ _ _ _ _ _ b => ih b E
  simp only [f_X7_sent_54] at h
  refine h_iload dX7_sent_54 rfl ?_
  refine h_aload_n dX7_sent_56 rfl ?_
  refine g_X7_16  dX7_sent_57 ?_
  obtain ⟨g1, h⟩ := gd_some h
  have w1 := of_decide_eq_true g1
  refine g_X7_97 (by omega) dX7_sent_60 ?_
  refine h_icmp_ge (tgt := 113) dX7_sent_63 (by decide) (fun q1 => ?_) (fun q1 => ?_)
  · rw [if_pos q1] at h
    refine h_iinc (1 : Int32) dX7_sent_113 rfl k_iinc_1 (by decide) rfl ?_
    refine h_goto (tgt := 44) dX7_sent_116 (by decide) ?_
    exact h_mask [true, true, true, true, true, true, true, false] (H44 _ _ _ _ _ _ _ h)
  · rw [if_neg q1] at h
    refine h_aload_n dX7_sent_66 rfl ?_
    refine h_iload_n dX7_sent_67 rfl ?_
    refine h_aload_n dX7_sent_68 rfl ?_
    refine h_iload_n dX7_sent_69 rfl ?_
    refine h_iload dX7_sent_70 rfl ?_
    refine h_iload dX7_sent_72 rfl ?_
    obtain ⟨y1, hh1, h⟩ := obd_some h
    refine h_cVi [.inl v1, .inl v7, .inl v6] (m_X1_reachedByWord (by decide) hh1) cw_X7_266 dX7_sent_74 rfl (ok_1 (by decide)) (by decide) rfl (Or.inr rfl) rfl ?_
    obtain ⟨y2, hh2, h⟩ := obd_some h
    refine h_cVi [.inl v1, .inl y1] (m_X1_isAllAsSeen (by decide) hh2) cw_X7_284 dX7_sent_77 rfl (ok_1 (by decide)) (by decide) rfl (Or.inr rfl) rfl ?_
    refine h_if_eq (tgt := 107) dX7_sent_80 (by decide) (fun q2 => ?_) (fun q2 => ?_)
    · rw [if_pos q2] at h
      refine h_iinc (1 : Int32) dX7_sent_107 rfl k_iinc_1 (by decide) rfl ?_
      refine h_goto (tgt := 54) dX7_sent_110 (by decide) ?_
      exact (H54 _ _ _ _ _ _ _ _ h)
    · rw [if_neg q2] at h
      refine h_iinc (1 : Int32) dX7_sent_83 rfl k_iinc_1 (by decide) rfl ?_
      refine h_iload dX7_sent_86 rfl ?_
      refine h_iconst (-1 : Int32) dX7_sent_88 k_iconst_m1 ?_
      refine h_icmp_ne (tgt := 103) dX7_sent_89 (by decide) (fun q3 => ?_) (fun q3 => ?_)
      · rw [if_neg q3] at h
        refine h_iload dX7_sent_103 rfl ?_
        refine h_istore dX7_sent_105 (by decide) rfl ?_
        refine h_iinc (1 : Int32) dX7_sent_107 rfl k_iinc_1 (by decide) rfl ?_
        refine h_goto (tgt := 54) dX7_sent_110 (by decide) ?_
        exact (H54 _ _ _ _ _ _ _ _ h)
      · rw [if_pos q3] at h
        refine h_bipush (100 : Int32) dX7_sent_92 k_bipush_100 ?_
        refine h_iload dX7_sent_94 rfl ?_
        refine h_imul dX7_sent_96 ?_
        refine h_iload dX7_sent_97 rfl ?_
        refine h_iadd dX7_sent_99 ?_
        refine h_goto (tgt := 105) dX7_sent_100 (by decide) ?_
        obtain ⟨x1, e1, h⟩ := bnd_some h
        refine h_nmv e1 ?_
        refine h_istore dX7_sent_105 (by decide) rfl ?_
        refine h_iinc (1 : Int32) dX7_sent_107 rfl k_iinc_1 (by decide) rfl ?_
        refine h_goto (tgt := 54) dX7_sent_110 (by decide) ?_
        exact (H54 _ _ _ _ _ _ _ _ h)
theorem bx_X7_sent_54 (X : CX) (Q : State → Prop) {O : Nat → Int64} {I0 : Mem} {P0 : PMem} {D : Bool} {n : Nat} {k44 : Mem → PMem → Int32 → Int32 → Int32 → Int32 → Int32 → Option ((Int32 × Mem × PMem) ⊕ Nat)} {r : Nat}  (H44 : ∀ (I : Mem) (P : PMem) (v1 : Int32) (v2 : Int32) (v4 : Int32) (v5 : Int32) (v6 : Int32), k44 I P v1 v2 v4 v5 v6 = some (Sum.inr r) → Here X cX7_sent RX7 8 (some .int) 9 (n + 1) 44 [some (.inr (.inr (7, 0, 0))), some (.inl v1), some (.inl v2), some (.inr (.inr (1, 0, 0))), some (.inl v4), some (.inl v5), some (.inl v6), none] [] I P O D n Q) : ∀ (fu : Nat) {I : Mem} {P : PMem} {v1 : Int32} {v2 : Int32} {v4 : Int32} {v5 : Int32} {v6 : Int32} {v7 : Int32}, f_X7_sent_54 k44 fu I P v1 v2 v4 v5 v6 v7 = some (Sum.inr r) → EndX X cX7_sent RX7 8 (some .int) 9 (n + 1) r I0 P0 O D Q → Here X cX7_sent RX7 8 (some .int) 9 (n + 1) 54 [some (.inr (.inr (7, 0, 0))), some (.inl v1), some (.inl v2), some (.inr (.inr (1, 0, 0))), some (.inl v4), some (.inl v5), some (.inl v6), some (.inl v7)] [] I P O D n Q := by
  intro fu
  induction fu with
  | zero => intro I P v1 v2 v4 v5 v6 v7 h E; cases h
  | succ fu ih =>
  intro I P v1 v2 v4 v5 v6 v7 h E
  have H54 : ∀ (I : Mem) (P : PMem) (v1 : Int32) (v2 : Int32) (v4 : Int32) (v5 : Int32) (v6 : Int32) (v7 : Int32), f_X7_sent_54 k44 fu I P v1 v2 v4 v5 v6 v7 = some (Sum.inr r) → Here X cX7_sent RX7 8 (some .int) 9 (n + 1) 54 [some (.inr (.inr (7, 0, 0))), some (.inl v1), some (.inl v2), some (.inr (.inr (1, 0, 0))), some (.inl v4), some (.inl v5), some (.inl v6), some (.inl v7)] [] I P O D n Q := fun _ _ _ _ _ _ _ _ b => ih b E
  simp only [f_X7_sent_54] at h
  refine h_iload dX7_sent_54 rfl ?_
  refine h_aload_n dX7_sent_56 rfl ?_
  refine g_X7_16  dX7_sent_57 ?_
  obtain ⟨g1, h⟩ := gd_some h
  have w1 := of_decide_eq_true g1
  refine g_X7_97 (by omega) dX7_sent_60 ?_
  refine h_icmp_ge (tgt := 113) dX7_sent_63 (by decide) (fun q1 => ?_) (fun q1 => ?_)
  · rw [if_pos q1] at h
    refine h_iinc (1 : Int32) dX7_sent_113 rfl k_iinc_1 (by decide) rfl ?_
    refine h_goto (tgt := 44) dX7_sent_116 (by decide) ?_
    exact h_mask [true, true, true, true, true, true, true, false] (H44 _ _ _ _ _ _ _ h)
  · rw [if_neg q1] at h
    refine h_aload_n dX7_sent_66 rfl ?_
    refine h_iload_n dX7_sent_67 rfl ?_
    refine h_aload_n dX7_sent_68 rfl ?_
    refine h_iload_n dX7_sent_69 rfl ?_
    refine h_iload dX7_sent_70 rfl ?_
    refine h_iload dX7_sent_72 rfl ?_
    obtain ⟨y1, hh1, h⟩ := obd_some h
    refine h_cVi [.inl v1, .inl v7, .inl v6] (m_X1_reachedByWord (by decide) hh1) cw_X7_266 dX7_sent_74 rfl (ok_1 (by decide)) (by decide) rfl (Or.inr rfl) rfl ?_
    obtain ⟨y2, hh2, h⟩ := obd_some h
    refine h_cVi [.inl v1, .inl y1] (m_X1_isAllAsSeen (by decide) hh2) cw_X7_284 dX7_sent_77 rfl (ok_1 (by decide)) (by decide) rfl (Or.inr rfl) rfl ?_
    refine h_if_eq (tgt := 107) dX7_sent_80 (by decide) (fun q2 => ?_) (fun q2 => ?_)
    · rw [if_pos q2] at h
      refine h_iinc (1 : Int32) dX7_sent_107 rfl k_iinc_1 (by decide) rfl ?_
      refine h_goto (tgt := 54) dX7_sent_110 (by decide) ?_
      exact (H54 _ _ _ _ _ _ _ _ h)
    · rw [if_neg q2] at h
      refine h_iinc (1 : Int32) dX7_sent_83 rfl k_iinc_1 (by decide) rfl ?_
      refine h_iload dX7_sent_86 rfl ?_
      refine h_iconst (-1 : Int32) dX7_sent_88 k_iconst_m1 ?_
      refine h_icmp_ne (tgt := 103) dX7_sent_89 (by decide) (fun q3 => ?_) (fun q3 => ?_)
      · rw [if_neg q3] at h
        refine h_iload dX7_sent_103 rfl ?_
        refine h_istore dX7_sent_105 (by decide) rfl ?_
        refine h_iinc (1 : Int32) dX7_sent_107 rfl k_iinc_1 (by decide) rfl ?_
        refine h_goto (tgt := 54) dX7_sent_110 (by decide) ?_
        exact (H54 _ _ _ _ _ _ _ _ h)
      · rw [if_pos q3] at h
        refine h_bipush (100 : Int32) dX7_sent_92 k_bipush_100 ?_
        refine h_iload dX7_sent_94 rfl ?_
        refine h_imul dX7_sent_96 ?_
        refine h_iload dX7_sent_97 rfl ?_
        refine h_iadd dX7_sent_99 ?_
        refine h_goto (tgt := 105) dX7_sent_100 (by decide) ?_
        obtain ⟨x1, e1, h⟩ := bnd_some h
        refine h_nmv e1 ?_
        refine h_istore dX7_sent_105 (by decide) rfl ?_
        refine h_iinc (1 : Int32) dX7_sent_107 rfl k_iinc_1 (by decide) rfl ?_
        refine h_goto (tgt := 54) dX7_sent_110 (by decide) ?_
        exact (H54 _ _ _ _ _ _ _ _ h)
def f_X7_sent_44   : Nat → Mem → PMem → Int32 → Int32 → Int32 → Int32 → Int32 → Option ((Int32 × Mem × PMem) ⊕ Nat)
  | 0, _, _, _, _, _, _, _ => none
  | fu + 1, I, P, v1, v2, v4, v5, v6 =>
    if (60 : Int32) < v6 then (if v2 = 0 then (some (Sum.inl (v4, I, P))) else (some (Sum.inl (v5, I, P)))) else (f_X7_sent_54 (f_X7_sent_44 fu) FU I P v1 v2 v4 v5 v6 (0 : Int32))
theorem b_X7_sent_44 (X : CX) (Q : State → Prop) {O : Nat → Int64} {D : Bool} {n : Nat} {r : (Int32 × Mem × PMem)}  : ∀ (fu : Nat) {I : Mem} {P : PMem} {v1 : Int32} {v2 : Int32} {v4 : Int32} {v5 : Int32} {v6 : Int32}, f_X7_sent_44 fu I P v1 v2 v4 v5 v6 = some (Sum.inl r) → EndR X cX7_sent RX7 8 (some .int) 9 n (some (.inl r.1)) r.2.1 r.2.2 O D Q → Here X cX7_sent RX7 8 (some .int) 9 n 44 [some (.inr (.inr (7, 0, 0))), some (.inl v1), some (.inl v2), some (.inr (.inr (1, 0, 0))), some (.inl v4), some (.inl v5), some (.inl v6), none] [] I P O D n Q := by
  intro fu
  induction fu with
  | zero => intro I P v1 v2 v4 v5 v6 h E; cases h
  | succ fu ih =>
  intro I P v1 v2 v4 v5 v6 h E
  have H44 : ∀ (I : Mem) (P : PMem) (v1 : Int32) (v2 : Int32) (v4 : Int32) (v5 : Int32) (v6 : Int32), f_X7_sent_44 fu I P v1 v2 v4 v5 v6 = some (Sum.inl r) → Here X cX7_sent RX7 8 (some .int) 9 n 44 [some (.inr (.inr (7, 0, 0))), some (.inl v1), some (.inl v2), some (.inr (.inr (1, 0, 0))), some (.inl v4), some (.inl v5), some (.inl v6), none] [] I P O D n Q := fun _ _ _ _ _ _ _ b => ih b E
  simp only [f_X7_sent_44] at h
  refine h_iload dX7_sent_44 rfl ?_
  refine h_bipush (60 : Int32) dX7_sent_46 k_bipush_60 ?_
  refine h_icmp_gt (tgt := 119) dX7_sent_48 (by decide) (fun q1 => ?_) (fun q1 => ?_)
  · rw [if_pos q1] at h
    refine h_iload_n dX7_sent_119 rfl ?_
    refine h_if_ne (tgt := 128) dX7_sent_120 (by decide) (fun q2 => ?_) (fun q2 => ?_)
    · rw [if_neg q2] at h
      refine h_iload dX7_sent_128 rfl ?_
      cases h
      exact h_iret dX7_sent_130 rfl E
    · rw [if_pos q2] at h
      refine h_iload dX7_sent_123 rfl ?_
      refine h_goto (tgt := 130) dX7_sent_125 (by decide) ?_
      cases h
      exact h_iret dX7_sent_130 rfl E
  · rw [if_neg q1] at h
    refine h_iconst (0 : Int32) dX7_sent_51 k_iconst_0 ?_
    refine h_istore dX7_sent_52 (by decide) rfl ?_
    exact (b_X7_sent_54 X Q H44 FU  h E)
theorem bx_X7_sent_44 (X : CX) (Q : State → Prop) {O : Nat → Int64} {I0 : Mem} {P0 : PMem} {D : Bool} {n : Nat} {r : Nat}  : ∀ (fu : Nat) {I : Mem} {P : PMem} {v1 : Int32} {v2 : Int32} {v4 : Int32} {v5 : Int32} {v6 : Int32}, f_X7_sent_44 fu I P v1 v2 v4 v5 v6 = some (Sum.inr r) → EndX X cX7_sent RX7 8 (some .int) 9 (n + 1) r I0 P0 O D Q → Here X cX7_sent RX7 8 (some .int) 9 (n + 1) 44 [some (.inr (.inr (7, 0, 0))), some (.inl v1), some (.inl v2), some (.inr (.inr (1, 0, 0))), some (.inl v4), some (.inl v5), some (.inl v6), none] [] I P O D n Q := by
  intro fu
  induction fu with
  | zero => intro I P v1 v2 v4 v5 v6 h E; cases h
  | succ fu ih =>
  intro I P v1 v2 v4 v5 v6 h E
  have H44 : ∀ (I : Mem) (P : PMem) (v1 : Int32) (v2 : Int32) (v4 : Int32) (v5 : Int32) (v6 : Int32), f_X7_sent_44 fu I P v1 v2 v4 v5 v6 = some (Sum.inr r) → Here X cX7_sent RX7 8 (some .int) 9 (n + 1) 44 [some (.inr (.inr (7, 0, 0))), some (.inl v1), some (.inl v2), some (.inr (.inr (1, 0, 0))), some (.inl v4), some (.inl v5), some (.inl v6), none] [] I P O D n Q := fun _ _ _ _ _ _ _ b => ih b E
  simp only [f_X7_sent_44] at h
  refine h_iload dX7_sent_44 rfl ?_
  refine h_bipush (60 : Int32) dX7_sent_46 k_bipush_60 ?_
  refine h_icmp_gt (tgt := 119) dX7_sent_48 (by decide) (fun q1 => ?_) (fun q1 => ?_)
  · rw [if_pos q1] at h
    refine h_iload_n dX7_sent_119 rfl ?_
    refine h_if_ne (tgt := 128) dX7_sent_120 (by decide) (fun q2 => ?_) (fun q2 => ?_)
    · rw [if_neg q2] at h
      refine h_iload dX7_sent_128 rfl ?_
      cases h
    · rw [if_pos q2] at h
      refine h_iload dX7_sent_123 rfl ?_
      refine h_goto (tgt := 130) dX7_sent_125 (by decide) ?_
      cases h
  · rw [if_neg q1] at h
    refine h_iconst (0 : Int32) dX7_sent_51 k_iconst_0 ?_
    refine h_istore dX7_sent_52 (by decide) rfl ?_
    exact (bx_X7_sent_54 X Q H44 FU  h E)
def f_X7_sent   (I : Mem) (P : PMem) (v1 : Int32) (v2 : Int32) : Option ((Int32 × Mem × PMem) ⊕ Nat) :=
  thb (f_X7_requireCase I P v1) fun y1 =>
  thb (f_X7_requireWhat I v2 (2 : Int32)) fun y2 =>
  (f_X7_settledCourt I P).bind fun y3 =>
  if v2 = (2 : Int32) then ((f_X1_isAllAsSeen y3.1 y3.2 0 v1 (0 : Int32)).bind fun y4 =>
  if y4 = 0 then (some (Sum.inl ((0 : Int32), y3.1, y3.2))) else (some (Sum.inl ((1 : Int32), y3.1, y3.2)))) else (f_X7_sent_44 FU y3.1 y3.2 v1 v2 (0 : Int32) (-1 : Int32) (0 : Int32))
theorem b_X7_sent (X : CX) (Q : State → Prop) {I : Mem} {P : PMem} {O : Nat → Int64} {D : Bool} {n : Nat} {v1 : Int32} {v2 : Int32} {r : (Int32 × Mem × PMem)}  (h : f_X7_sent I P v1 v2 = some (Sum.inl r)) (E : EndR X cX7_sent RX7 8 (some .int) 9 n (some (.inl r.1)) r.2.1 r.2.2 O D Q) : Here X cX7_sent RX7 8 (some .int) 9 n 0 [some (.inr (.inr (7, 0, 0))), some (.inl v1), some (.inl v2), none, none, none, none, none] [] I P O D n Q := by
  unfold f_X7_sent at h
  refine h_aload_n dX7_sent_0 rfl ?_
  refine h_iload_n dX7_sent_1 rfl ?_
  obtain ⟨y1, hh1, h⟩ := thb_R h
  refine h_cVv [.inl v1] (m_X7_requireCase  hh1) cw_X7_194 dX7_sent_2 rfl ok_7 (by decide) rfl (Or.inr rfl) rfl ?_
  refine h_iload_n dX7_sent_5 rfl ?_
  refine h_iconst (2 : Int32) dX7_sent_6 k_iconst_2 ?_
  obtain ⟨y2, hh2, h⟩ := thb_R h
  refine h_cSv [.inl v2, .inl (2 : Int32)] (m_X7_requireWhat  hh2) cs_X7_152 dX7_sent_7 rfl (by decide) rfl (Or.inr rfl) rfl ?_
  refine h_aload_n dX7_sent_10 rfl ?_
  obtain ⟨y3, hh3, h⟩ := obd_some h
  refine h_cVa [] (m_X7_settledCourt  hh3) cw_X7_131 dX7_sent_11 rfl ok_7 (by decide) rfl (Or.inr rfl) rfl ?_
  refine h_astore_n dX7_sent_14 (by decide) rfl ?_
  refine h_iload_n dX7_sent_15 rfl ?_
  refine h_iconst (2 : Int32) dX7_sent_16 k_iconst_2 ?_
  refine h_icmp_ne (tgt := 35) dX7_sent_17 (by decide) (fun q1 => ?_) (fun q1 => ?_)
  · rw [if_neg q1] at h
    refine h_iconst (0 : Int32) dX7_sent_35 k_iconst_0 ?_
    refine h_istore dX7_sent_36 (by decide) rfl ?_
    refine h_iconst (-1 : Int32) dX7_sent_38 k_iconst_m1 ?_
    refine h_istore dX7_sent_39 (by decide) rfl ?_
    refine h_iconst (0 : Int32) dX7_sent_41 k_iconst_0 ?_
    refine h_istore dX7_sent_42 (by decide) rfl ?_
    exact (b_X7_sent_44 X Q FU  h E)
  · rw [if_pos q1] at h
    refine h_aload_n dX7_sent_20 rfl ?_
    refine h_iload_n dX7_sent_21 rfl ?_
    refine h_iconst (0 : Int32) dX7_sent_22 k_iconst_0 ?_
    obtain ⟨y4, hh4, h⟩ := obd_some h
    refine h_cVi [.inl v1, .inl (0 : Int32)] (m_X1_isAllAsSeen (by decide) hh4) cw_X7_284 dX7_sent_23 rfl (ok_1 (by decide)) (by decide) rfl (Or.inr rfl) rfl ?_
    refine h_if_eq (tgt := 33) dX7_sent_26 (by decide) (fun q2 => ?_) (fun q2 => ?_)
    · rw [if_pos q2] at h
      refine h_iconst (0 : Int32) dX7_sent_33 k_iconst_0 ?_
      cases h
      exact h_iret dX7_sent_34 rfl E
    · rw [if_neg q2] at h
      refine h_iconst (1 : Int32) dX7_sent_29 k_iconst_1 ?_
      refine h_goto (tgt := 34) dX7_sent_30 (by decide) ?_
      cases h
      exact h_iret dX7_sent_34 rfl E
theorem bx_X7_sent (X : CX) (Q : State → Prop) {I : Mem} {P : PMem} {O : Nat → Int64} {D : Bool} {n : Nat} {v1 : Int32} {v2 : Int32} {r : Nat}  (h : f_X7_sent I P v1 v2 = some (Sum.inr r)) (E : EndX X cX7_sent RX7 8 (some .int) 9 (n + 1) r I P O D Q) : Here X cX7_sent RX7 8 (some .int) 9 (n + 1) 0 [some (.inr (.inr (7, 0, 0))), some (.inl v1), some (.inl v2), none, none, none, none, none] [] I P O D n Q := by
  unfold f_X7_sent at h
  refine h_aload_n dX7_sent_0 rfl ?_
  refine h_iload_n dX7_sent_1 rfl ?_
  rcases thb_X h with hh1 | ⟨y1, hh1, h⟩
  · exact h_callVX (as := [.inl v1]) (mx_X7_requireCase  hh1) cw_X7_194 dX7_sent_2 rfl ok_7 (by decide) rfl rfl E
  refine h_cVv [.inl v1] (m_X7_requireCase  hh1) cw_X7_194 dX7_sent_2 rfl ok_7 (by decide) rfl (Or.inr rfl) rfl ?_
  refine h_iload_n dX7_sent_5 rfl ?_
  refine h_iconst (2 : Int32) dX7_sent_6 k_iconst_2 ?_
  rcases thb_X h with hh2 | ⟨y2, hh2, h⟩
  · exact h_callSX (as := [.inl v2, .inl (2 : Int32)]) (mx_X7_requireWhat  hh2) cs_X7_152 dX7_sent_7 rfl (by decide) rfl rfl E
  refine h_cSv [.inl v2, .inl (2 : Int32)] (m_X7_requireWhat  hh2) cs_X7_152 dX7_sent_7 rfl (by decide) rfl (Or.inr rfl) rfl ?_
  refine h_aload_n dX7_sent_10 rfl ?_
  obtain ⟨y3, hh3, h⟩ := obd_some h
  refine h_cVa [] (m_X7_settledCourt  hh3) cw_X7_131 dX7_sent_11 rfl ok_7 (by decide) rfl (Or.inr rfl) rfl ?_
  refine h_astore_n dX7_sent_14 (by decide) rfl ?_
  refine h_iload_n dX7_sent_15 rfl ?_
  refine h_iconst (2 : Int32) dX7_sent_16 k_iconst_2 ?_
  refine h_icmp_ne (tgt := 35) dX7_sent_17 (by decide) (fun q1 => ?_) (fun q1 => ?_)
  · rw [if_neg q1] at h
    refine h_iconst (0 : Int32) dX7_sent_35 k_iconst_0 ?_
    refine h_istore dX7_sent_36 (by decide) rfl ?_
    refine h_iconst (-1 : Int32) dX7_sent_38 k_iconst_m1 ?_
    refine h_istore dX7_sent_39 (by decide) rfl ?_
    refine h_iconst (0 : Int32) dX7_sent_41 k_iconst_0 ?_
    refine h_istore dX7_sent_42 (by decide) rfl ?_
    exact (bx_X7_sent_44 X Q FU  h E)
  · rw [if_pos q1] at h
    refine h_aload_n dX7_sent_20 rfl ?_
    refine h_iload_n dX7_sent_21 rfl ?_
    refine h_iconst (0 : Int32) dX7_sent_22 k_iconst_0 ?_
    obtain ⟨y4, hh4, h⟩ := obd_some h
    refine h_cVi [.inl v1, .inl (0 : Int32)] (m_X1_isAllAsSeen (by decide) hh4) cw_X7_284 dX7_sent_23 rfl (ok_1 (by decide)) (by decide) rfl (Or.inr rfl) rfl ?_
    refine h_if_eq (tgt := 33) dX7_sent_26 (by decide) (fun q2 => ?_) (fun q2 => ?_)
    · rw [if_pos q2] at h
      refine h_iconst (0 : Int32) dX7_sent_33 k_iconst_0 ?_
      cases h
    · rw [if_neg q2] at h
      refine h_iconst (1 : Int32) dX7_sent_29 k_iconst_1 ?_
      refine h_goto (tgt := 34) dX7_sent_30 (by decide) ?_
      cases h
theorem m_X7_sent {I : Mem} {P : PMem} {O : Nat → Int64} {D : Bool} {n : Nat} {v1 : Int32} {v2 : Int32} {r : (Int32 × Mem × PMem)}  (h : f_X7_sent I P v1 v2 = some (Sum.inl r)) : MethR yX7_sent cX7_sent 8 (some .int) 9 [.inr (.inr (7, 0, 0)), .inl v1, .inl v2] I P O D n (some (.inl r.1)) r.2.1 r.2.2 O D n := meth_R (Nat.le_refl _) (by decide) rfl (Nat.le_of_ble_eq_true rfl) rfl (fun X Q E => b_X7_sent X Q  h E)
theorem mx_X7_sent {I : Mem} {P : PMem} {O : Nat → Int64} {D : Bool} {n : Nat} {v1 : Int32} {v2 : Int32} {r : Nat}  (h : f_X7_sent I P v1 v2 = some (Sum.inr r)) : MethX yX7_sent cX7_sent 8 (some .int) 9 [.inr (.inr (7, 0, 0)), .inl v1, .inl v2] I P O D n r I P O D (n + 1) := meth_X (Nat.le_succ _) (by decide) rfl (Nat.le_of_ble_eq_true rfl) rfl (fun X Q E => bx_X7_sent X Q  h E)
def f_X7_game_44 (k29 : Mem → PMem → Int32 → Int32 → Int32 → Int32 → Option ((Int32 × Mem × PMem) ⊕ Nat))  : Nat → Mem → PMem → Int32 → Int32 → Int32 → Int32 → Int32 → Option ((Int32 × Mem × PMem) ⊕ Nat)
  | 0, _, _, _, _, _, _, _ => none
  | fu + 1, I, P, v2, v4, v5, v6, v7 =>
    gd (decide ((P 7 0 0 2) < 2)) <|
    if (I 3 (P 7 0 0 2) 0 7) ≤ v7 then (k29 I P v2 v4 v5 (v6 + (1 : Int32))) else ((f_X1_rests I P 0 v6 v7).bind fun y1 =>
    if y1 = 0 then ((f_X7_game_44 k29 fu) I P v2 v4 v5 v6 (v7 + (1 : Int32))) else (if v5 = (-1 : Int32) then (bnd (((10 : Int32) * v6) + v7) fun x1 =>
    (f_X7_game_44 k29 fu) I P v2 (v4 + (1 : Int32)) x1 v6 (v7 + (1 : Int32))) else ((f_X7_game_44 k29 fu) I P v2 (v4 + (1 : Int32)) v5 v6 (v7 + (1 : Int32)))))
theorem b_X7_game_44 (X : CX) (Q : State → Prop) {O : Nat → Int64} {D : Bool} {n : Nat} {k29 : Mem → PMem → Int32 → Int32 → Int32 → Int32 → Option ((Int32 × Mem × PMem) ⊕ Nat)} {r : (Int32 × Mem × PMem)}  (H29 : ∀ (I : Mem) (P : PMem) (v2 : Int32) (v4 : Int32) (v5 : Int32) (v6 : Int32), k29 I P v2 v4 v5 v6 = some (Sum.inl r) → Here X cX7_game RX7 8 (some .int) 9 n 29 [some (.inr (.inr (7, 0, 0))), none, some (.inl v2), some (.inr (.inr (1, 0, 0))), some (.inl v4), some (.inl v5), some (.inl v6), none] [] I P O D n Q) : ∀ (fu : Nat) {I : Mem} {P : PMem} {v2 : Int32} {v4 : Int32} {v5 : Int32} {v6 : Int32} {v7 : Int32}, f_X7_game_44 k29 fu I P v2 v4 v5 v6 v7 = some (Sum.inl r) → EndR X cX7_game RX7 8 (some .int) 9 n (some (.inl r.1)) r.2.1 r.2.2 O D Q → Here X cX7_game RX7 8 (some .int) 9 n 44 [some (.inr (.inr (7, 0, 0))), none, some (.inl v2), some (.inr (.inr (1, 0, 0))), some (.inl v4), some (.inl v5), some (.inl v6), some (.inl v7)] [] I P O D n Q := by
  intro fu
  induction fu with
  | zero => intro I P v2 v4 v5 v6 v7 h E; cases h
  | succ fu ih =>
  intro I P v2 v4 v5 v6 v7 h E
  have H44 : ∀ (I : Mem) (P : PMem) (v2 : Int32) (v4 : Int32) (v5 : Int32) (v6 : Int32) (v7 : Int32), f_X7_game_44 k29 fu I P v2 v4 v5 v6 v7 = some (Sum.inl r) → Here X cX7_game RX7 8 (some .int) 9 n 44 [some (.inr (.inr (7, 0, 0))), none, some (.inl v2), some (.inr (.inr (1, 0, 0))), some (.inl v4), some (.inl v5), some (.inl v6), some (.inl v7)] [] I P O D n Q := fun _ _ _ _ _ _ _ b => ih b E
  simp only [f_X7_game_44] at h
  refine h_iload dX7_game_44 rfl ?_
  refine h_aload_n dX7_game_46 rfl ?_
  refine g_X7_16  dX7_game_47 ?_
  obtain ⟨g1, h⟩ := gd_some h
  have w1 := of_decide_eq_true g1
  refine g_X7_107 (by omega) dX7_game_50 ?_
  refine h_icmp_ge (tgt := 97) dX7_game_53 (by decide) (fun q1 => ?_) (fun q1 => ?_)
  · rw [if_pos q1] at h
    refine h_iinc (1 : Int32) dX7_game_97 rfl k_iinc_1 (by decide) rfl ?_
    refine h_goto (tgt := 29) dX7_game_100 (by decide) ?_
    exact h_mask [true, false, true, true, true, true, true, false] (H29 _ _ _ _ _ _ h)
  · rw [if_neg q1] at h
    refine h_aload_n dX7_game_56 rfl ?_
    refine h_iload dX7_game_57 rfl ?_
    refine h_iload dX7_game_59 rfl ?_
    obtain ⟨y1, hh1, h⟩ := obd_some h
    refine h_cVi [.inl v6, .inl v7] (m_X1_rests (by decide) hh1) cw_X7_290 dX7_game_61 rfl (ok_1 (by decide)) (by decide) rfl (Or.inr rfl) rfl ?_
    refine h_if_eq (tgt := 91) dX7_game_64 (by decide) (fun q2 => ?_) (fun q2 => ?_)
    · rw [if_pos q2] at h
      refine h_iinc (1 : Int32) dX7_game_91 rfl k_iinc_1 (by decide) rfl ?_
      refine h_goto (tgt := 44) dX7_game_94 (by decide) ?_
      exact (H44 _ _ _ _ _ _ _ h)
    · rw [if_neg q2] at h
      refine h_iinc (1 : Int32) dX7_game_67 rfl k_iinc_1 (by decide) rfl ?_
      refine h_iload dX7_game_70 rfl ?_
      refine h_iconst (-1 : Int32) dX7_game_72 k_iconst_m1 ?_
      refine h_icmp_ne (tgt := 87) dX7_game_73 (by decide) (fun q3 => ?_) (fun q3 => ?_)
      · rw [if_neg q3] at h
        refine h_iload dX7_game_87 rfl ?_
        refine h_istore dX7_game_89 (by decide) rfl ?_
        refine h_iinc (1 : Int32) dX7_game_91 rfl k_iinc_1 (by decide) rfl ?_
        refine h_goto (tgt := 44) dX7_game_94 (by decide) ?_
        exact (H44 _ _ _ _ _ _ _ h)
      · rw [if_pos q3] at h
        refine h_bipush (10 : Int32) dX7_game_76 k_bipush_10 ?_
        refine h_iload dX7_game_78 rfl ?_
        refine h_imul dX7_game_80 ?_
        refine h_iload dX7_game_81 rfl ?_
        refine h_iadd dX7_game_83 ?_
        refine h_goto (tgt := 89) dX7_game_84 (by decide) ?_
        obtain ⟨x1, e1, h⟩ := bnd_some h
        refine h_nmv e1 ?_
        refine h_istore dX7_game_89 (by decide) rfl ?_
        refine h_iinc (1 : Int32) dX7_game_91 rfl k_iinc_1 (by decide) rfl ?_
        refine h_goto (tgt := 44) dX7_game_94 (by decide) ?_
        exact (H44 _ _ _ _ _ _ _ h)
theorem bx_X7_game_44 (X : CX) (Q : State → Prop) {O : Nat → Int64} {I0 : Mem} {P0 : PMem} {D : Bool} {n : Nat} {k29 : Mem → PMem → Int32 → Int32 → Int32 → Int32 → Option ((Int32 × Mem × PMem) ⊕ Nat)} {r : Nat}  (H29 : ∀ (I : Mem) (P : PMem) (v2 : Int32) (v4 : Int32) (v5 : Int32) (v6 : Int32), k29 I P v2 v4 v5 v6 = some (Sum.inr r) → Here X cX7_game RX7 8 (some .int) 9 (n + 1) 29 [some (.inr (.inr (7, 0, 0))), none, some (.inl v2), some (.inr (.inr (1, 0, 0))), some (.inl v4), some (.inl v5), some (.inl v6), none] [] I P O D n Q) : ∀ (fu : Nat) {I : Mem} {P : PMem} {v2 : Int32} {v4 : Int32} {v5 : Int32} {v6 : Int32} {v7 : Int32}, f_X7_game_44 k29 fu I P v2 v4 v5 v6 v7 = some (Sum.inr r) → EndX X cX7_game RX7 8 (some .int) 9 (n + 1) r I0 P0 O D Q → Here X cX7_game RX7 8 (some .int) 9 (n + 1) 44 [some (.inr (.inr (7, 0, 0))), none, some (.inl v2), some (.inr (.inr (1, 0, 0))), some (.inl v4), some (.inl v5), some (.inl v6), some (.inl v7)] [] I P O D n Q := by
  intro fu
  induction fu with
  | zero => intro I P v2 v4 v5 v6 v7 h E; cases h
  | succ fu ih =>
  intro I P v2 v4 v5 v6 v7 h E
  have H44 : ∀ (I : Mem) (P : PMem) (v2 : Int32) (v4 : Int32) (v5 : Int32) (v6 : Int32) (v7 : Int32), f_X7_game_44 k29 fu I P v2 v4 v5 v6 v7 = some (Sum.inr r) → Here X cX7_game RX7 8 (some .int) 9 (n + 1) 44 [some (.inr (.inr (7, 0, 0))), none, some (.inl v2), some (.inr (.inr (1, 0, 0))), some (.inl v4), some (.inl v5), some (.inl v6), some (.inl v7)] [] I P O D n Q := fun _ _ _ _ _ _ _ b => ih b E
  simp only [f_X7_game_44] at h
  refine h_iload dX7_game_44 rfl ?_
  refine h_aload_n dX7_game_46 rfl ?_
  refine g_X7_16  dX7_game_47 ?_
  obtain ⟨g1, h⟩ := gd_some h
  have w1 := of_decide_eq_true g1
  refine g_X7_107 (by omega) dX7_game_50 ?_
  refine h_icmp_ge (tgt := 97) dX7_game_53 (by decide) (fun q1 => ?_) (fun q1 => ?_)
  · rw [if_pos q1] at h
    refine h_iinc (1 : Int32) dX7_game_97 rfl k_iinc_1 (by decide) rfl ?_
    refine h_goto (tgt := 29) dX7_game_100 (by decide) ?_
    exact h_mask [true, false, true, true, true, true, true, false] (H29 _ _ _ _ _ _ h)
  · rw [if_neg q1] at h
    refine h_aload_n dX7_game_56 rfl ?_
    refine h_iload dX7_game_57 rfl ?_
    refine h_iload dX7_game_59 rfl ?_
    obtain ⟨y1, hh1, h⟩ := obd_some h
    refine h_cVi [.inl v6, .inl v7] (m_X1_rests (by decide) hh1) cw_X7_290 dX7_game_61 rfl (ok_1 (by decide)) (by decide) rfl (Or.inr rfl) rfl ?_
    refine h_if_eq (tgt := 91) dX7_game_64 (by decide) (fun q2 => ?_) (fun q2 => ?_)
    · rw [if_pos q2] at h
      refine h_iinc (1 : Int32) dX7_game_91 rfl k_iinc_1 (by decide) rfl ?_
      refine h_goto (tgt := 44) dX7_game_94 (by decide) ?_
      exact (H44 _ _ _ _ _ _ _ h)
    · rw [if_neg q2] at h
      refine h_iinc (1 : Int32) dX7_game_67 rfl k_iinc_1 (by decide) rfl ?_
      refine h_iload dX7_game_70 rfl ?_
      refine h_iconst (-1 : Int32) dX7_game_72 k_iconst_m1 ?_
      refine h_icmp_ne (tgt := 87) dX7_game_73 (by decide) (fun q3 => ?_) (fun q3 => ?_)
      · rw [if_neg q3] at h
        refine h_iload dX7_game_87 rfl ?_
        refine h_istore dX7_game_89 (by decide) rfl ?_
        refine h_iinc (1 : Int32) dX7_game_91 rfl k_iinc_1 (by decide) rfl ?_
        refine h_goto (tgt := 44) dX7_game_94 (by decide) ?_
        exact (H44 _ _ _ _ _ _ _ h)
      · rw [if_pos q3] at h
        refine h_bipush (10 : Int32) dX7_game_76 k_bipush_10 ?_
        refine h_iload dX7_game_78 rfl ?_
        refine h_imul dX7_game_80 ?_
        refine h_iload dX7_game_81 rfl ?_
        refine h_iadd dX7_game_83 ?_
        refine h_goto (tgt := 89) dX7_game_84 (by decide) ?_
        obtain ⟨x1, e1, h⟩ := bnd_some h
        refine h_nmv e1 ?_
        refine h_istore dX7_game_89 (by decide) rfl ?_
        refine h_iinc (1 : Int32) dX7_game_91 rfl k_iinc_1 (by decide) rfl ?_
        refine h_goto (tgt := 44) dX7_game_94 (by decide) ?_
        exact (H44 _ _ _ _ _ _ _ h)
def f_X7_game_29   : Nat → Mem → PMem → Int32 → Int32 → Int32 → Int32 → Option ((Int32 × Mem × PMem) ⊕ Nat)
  | 0, _, _, _, _, _, _ => none
  | fu + 1, I, P, v2, v4, v5, v6 =>
    gd (decide ((P 7 0 0 2) < 2)) <|
    if (I 3 (P 7 0 0 2) 0 7) ≤ v6 then (if v2 = 0 then (some (Sum.inl (v4, I, P))) else (some (Sum.inl (v5, I, P)))) else (f_X7_game_44 (f_X7_game_29 fu) FU I P v2 v4 v5 v6 (0 : Int32))
theorem b_X7_game_29 (X : CX) (Q : State → Prop) {O : Nat → Int64} {D : Bool} {n : Nat} {r : (Int32 × Mem × PMem)}  : ∀ (fu : Nat) {I : Mem} {P : PMem} {v2 : Int32} {v4 : Int32} {v5 : Int32} {v6 : Int32}, f_X7_game_29 fu I P v2 v4 v5 v6 = some (Sum.inl r) → EndR X cX7_game RX7 8 (some .int) 9 n (some (.inl r.1)) r.2.1 r.2.2 O D Q → Here X cX7_game RX7 8 (some .int) 9 n 29 [some (.inr (.inr (7, 0, 0))), none, some (.inl v2), some (.inr (.inr (1, 0, 0))), some (.inl v4), some (.inl v5), some (.inl v6), none] [] I P O D n Q := by
  intro fu
  induction fu with
  | zero => intro I P v2 v4 v5 v6 h E; cases h
  | succ fu ih =>
  intro I P v2 v4 v5 v6 h E
  have H29 : ∀ (I : Mem) (P : PMem) (v2 : Int32) (v4 : Int32) (v5 : Int32) (v6 : Int32), f_X7_game_29 fu I P v2 v4 v5 v6 = some (Sum.inl r) → Here X cX7_game RX7 8 (some .int) 9 n 29 [some (.inr (.inr (7, 0, 0))), none, some (.inl v2), some (.inr (.inr (1, 0, 0))), some (.inl v4), some (.inl v5), some (.inl v6), none] [] I P O D n Q := fun _ _ _ _ _ _ b => ih b E
  simp only [f_X7_game_29] at h
  refine h_iload dX7_game_29 rfl ?_
  refine h_aload_n dX7_game_31 rfl ?_
  refine g_X7_16  dX7_game_32 ?_
  obtain ⟨g1, h⟩ := gd_some h
  have w1 := of_decide_eq_true g1
  refine g_X7_107 (by omega) dX7_game_35 ?_
  refine h_icmp_ge (tgt := 103) dX7_game_38 (by decide) (fun q1 => ?_) (fun q1 => ?_)
  · rw [if_pos q1] at h
    refine h_iload_n dX7_game_103 rfl ?_
    refine h_if_ne (tgt := 112) dX7_game_104 (by decide) (fun q2 => ?_) (fun q2 => ?_)
    · rw [if_neg q2] at h
      refine h_iload dX7_game_112 rfl ?_
      cases h
      exact h_iret dX7_game_114 rfl E
    · rw [if_pos q2] at h
      refine h_iload dX7_game_107 rfl ?_
      refine h_goto (tgt := 114) dX7_game_109 (by decide) ?_
      cases h
      exact h_iret dX7_game_114 rfl E
  · rw [if_neg q1] at h
    refine h_iconst (0 : Int32) dX7_game_41 k_iconst_0 ?_
    refine h_istore dX7_game_42 (by decide) rfl ?_
    exact (b_X7_game_44 X Q H29 FU  h E)
theorem bx_X7_game_29 (X : CX) (Q : State → Prop) {O : Nat → Int64} {I0 : Mem} {P0 : PMem} {D : Bool} {n : Nat} {r : Nat}  : ∀ (fu : Nat) {I : Mem} {P : PMem} {v2 : Int32} {v4 : Int32} {v5 : Int32} {v6 : Int32}, f_X7_game_29 fu I P v2 v4 v5 v6 = some (Sum.inr r) → EndX X cX7_game RX7 8 (some .int) 9 (n + 1) r I0 P0 O D Q → Here X cX7_game RX7 8 (some .int) 9 (n + 1) 29 [some (.inr (.inr (7, 0, 0))), none, some (.inl v2), some (.inr (.inr (1, 0, 0))), some (.inl v4), some (.inl v5), some (.inl v6), none] [] I P O D n Q := by
  intro fu
  induction fu with
  | zero => intro I P v2 v4 v5 v6 h E; cases h
  | succ fu ih =>
  intro I P v2 v4 v5 v6 h E
  have H29 : ∀ (I : Mem) (P : PMem) (v2 : Int32) (v4 : Int32) (v5 : Int32) (v6 : Int32), f_X7_game_29 fu I P v2 v4 v5 v6 = some (Sum.inr r) → Here X cX7_game RX7 8 (some .int) 9 (n + 1) 29 [some (.inr (.inr (7, 0, 0))), none, some (.inl v2), some (.inr (.inr (1, 0, 0))), some (.inl v4), some (.inl v5), some (.inl v6), none] [] I P O D n Q := fun _ _ _ _ _ _ b => ih b E
  simp only [f_X7_game_29] at h
  refine h_iload dX7_game_29 rfl ?_
  refine h_aload_n dX7_game_31 rfl ?_
  refine g_X7_16  dX7_game_32 ?_
  obtain ⟨g1, h⟩ := gd_some h
  have w1 := of_decide_eq_true g1
  refine g_X7_107 (by omega) dX7_game_35 ?_
  refine h_icmp_ge (tgt := 103) dX7_game_38 (by decide) (fun q1 => ?_) (fun q1 => ?_)
  · rw [if_pos q1] at h
    refine h_iload_n dX7_game_103 rfl ?_
    refine h_if_ne (tgt := 112) dX7_game_104 (by decide) (fun q2 => ?_) (fun q2 => ?_)
    · rw [if_neg q2] at h
      refine h_iload dX7_game_112 rfl ?_
      cases h
    · rw [if_pos q2] at h
      refine h_iload dX7_game_107 rfl ?_
      refine h_goto (tgt := 114) dX7_game_109 (by decide) ?_
      cases h
  · rw [if_neg q1] at h
    refine h_iconst (0 : Int32) dX7_game_41 k_iconst_0 ?_
    refine h_istore dX7_game_42 (by decide) rfl ?_
    exact (bx_X7_game_44 X Q H29 FU  h E)
def f_X7_game   (I : Mem) (P : PMem) (v1 : Int32) (v2 : Int32) : Option ((Int32 × Mem × PMem) ⊕ Nat) :=
  thb (f_X7_requireCase I P v1) fun y1 =>
  thb (f_X7_requireWhat I v2 (1 : Int32)) fun y2 =>
  (f_X7_settledCourt I P).bind fun y3 =>
  (f_X1_playGame y3.2 0 y3.1 v1).bind fun y4 =>
  f_X7_game_29 FU y4 y3.2 v2 (0 : Int32) (-1 : Int32) (0 : Int32)
theorem b_X7_game (X : CX) (Q : State → Prop) {I : Mem} {P : PMem} {O : Nat → Int64} {D : Bool} {n : Nat} {v1 : Int32} {v2 : Int32} {r : (Int32 × Mem × PMem)}  (h : f_X7_game I P v1 v2 = some (Sum.inl r)) (E : EndR X cX7_game RX7 8 (some .int) 9 n (some (.inl r.1)) r.2.1 r.2.2 O D Q) : Here X cX7_game RX7 8 (some .int) 9 n 0 [some (.inr (.inr (7, 0, 0))), some (.inl v1), some (.inl v2), none, none, none, none, none] [] I P O D n Q := by
  unfold f_X7_game at h
  refine h_aload_n dX7_game_0 rfl ?_
  refine h_iload_n dX7_game_1 rfl ?_
  obtain ⟨y1, hh1, h⟩ := thb_R h
  refine h_cVv [.inl v1] (m_X7_requireCase  hh1) cw_X7_194 dX7_game_2 rfl ok_7 (by decide) rfl (Or.inr rfl) rfl ?_
  refine h_iload_n dX7_game_5 rfl ?_
  refine h_iconst (1 : Int32) dX7_game_6 k_iconst_1 ?_
  obtain ⟨y2, hh2, h⟩ := thb_R h
  refine h_cSv [.inl v2, .inl (1 : Int32)] (m_X7_requireWhat  hh2) cs_X7_152 dX7_game_7 rfl (by decide) rfl (Or.inr rfl) rfl ?_
  refine h_aload_n dX7_game_10 rfl ?_
  obtain ⟨y3, hh3, h⟩ := obd_some h
  refine h_cVa [] (m_X7_settledCourt  hh3) cw_X7_131 dX7_game_11 rfl ok_7 (by decide) rfl (Or.inr rfl) rfl ?_
  refine h_astore_n dX7_game_14 (by decide) rfl ?_
  refine h_aload_n dX7_game_15 rfl ?_
  refine h_iload_n dX7_game_16 rfl ?_
  obtain ⟨y4, hh4, h⟩ := obd_some h
  refine h_cVv [.inl v1] (m_X1_playGame (by decide) hh4) cw_X7_287 dX7_game_17 rfl (ok_1 (by decide)) (by decide) rfl (Or.inr rfl) rfl ?_
  refine h_iconst (0 : Int32) dX7_game_20 k_iconst_0 ?_
  refine h_istore dX7_game_21 (by decide) rfl ?_
  refine h_iconst (-1 : Int32) dX7_game_23 k_iconst_m1 ?_
  refine h_istore dX7_game_24 (by decide) rfl ?_
  refine h_iconst (0 : Int32) dX7_game_26 k_iconst_0 ?_
  refine h_istore dX7_game_27 (by decide) rfl ?_
  exact h_mask [true, false, true, true, true, true, true, false] (b_X7_game_29 X Q FU  h E)
theorem bx_X7_game (X : CX) (Q : State → Prop) {I : Mem} {P : PMem} {O : Nat → Int64} {D : Bool} {n : Nat} {v1 : Int32} {v2 : Int32} {r : Nat}  (h : f_X7_game I P v1 v2 = some (Sum.inr r)) (E : EndX X cX7_game RX7 8 (some .int) 9 (n + 1) r I P O D Q) : Here X cX7_game RX7 8 (some .int) 9 (n + 1) 0 [some (.inr (.inr (7, 0, 0))), some (.inl v1), some (.inl v2), none, none, none, none, none] [] I P O D n Q := by
  unfold f_X7_game at h
  refine h_aload_n dX7_game_0 rfl ?_
  refine h_iload_n dX7_game_1 rfl ?_
  rcases thb_X h with hh1 | ⟨y1, hh1, h⟩
  · exact h_callVX (as := [.inl v1]) (mx_X7_requireCase  hh1) cw_X7_194 dX7_game_2 rfl ok_7 (by decide) rfl rfl E
  refine h_cVv [.inl v1] (m_X7_requireCase  hh1) cw_X7_194 dX7_game_2 rfl ok_7 (by decide) rfl (Or.inr rfl) rfl ?_
  refine h_iload_n dX7_game_5 rfl ?_
  refine h_iconst (1 : Int32) dX7_game_6 k_iconst_1 ?_
  rcases thb_X h with hh2 | ⟨y2, hh2, h⟩
  · exact h_callSX (as := [.inl v2, .inl (1 : Int32)]) (mx_X7_requireWhat  hh2) cs_X7_152 dX7_game_7 rfl (by decide) rfl rfl E
  refine h_cSv [.inl v2, .inl (1 : Int32)] (m_X7_requireWhat  hh2) cs_X7_152 dX7_game_7 rfl (by decide) rfl (Or.inr rfl) rfl ?_
  refine h_aload_n dX7_game_10 rfl ?_
  obtain ⟨y3, hh3, h⟩ := obd_some h
  refine h_cVa [] (m_X7_settledCourt  hh3) cw_X7_131 dX7_game_11 rfl ok_7 (by decide) rfl (Or.inr rfl) rfl ?_
  refine h_astore_n dX7_game_14 (by decide) rfl ?_
  refine h_aload_n dX7_game_15 rfl ?_
  refine h_iload_n dX7_game_16 rfl ?_
  obtain ⟨y4, hh4, h⟩ := obd_some h
  refine h_cVv [.inl v1] (m_X1_playGame (by decide) hh4) cw_X7_287 dX7_game_17 rfl (ok_1 (by decide)) (by decide) rfl (Or.inr rfl) rfl ?_
  refine h_iconst (0 : Int32) dX7_game_20 k_iconst_0 ?_
  refine h_istore dX7_game_21 (by decide) rfl ?_
  refine h_iconst (-1 : Int32) dX7_game_23 k_iconst_m1 ?_
  refine h_istore dX7_game_24 (by decide) rfl ?_
  refine h_iconst (0 : Int32) dX7_game_26 k_iconst_0 ?_
  refine h_istore dX7_game_27 (by decide) rfl ?_
  exact h_mask [true, false, true, true, true, true, true, false] (bx_X7_game_29 X Q FU  h E)
theorem m_X7_game {I : Mem} {P : PMem} {O : Nat → Int64} {D : Bool} {n : Nat} {v1 : Int32} {v2 : Int32} {r : (Int32 × Mem × PMem)}  (h : f_X7_game I P v1 v2 = some (Sum.inl r)) : MethR yX7_game cX7_game 8 (some .int) 9 [.inr (.inr (7, 0, 0)), .inl v1, .inl v2] I P O D n (some (.inl r.1)) r.2.1 r.2.2 O D n := meth_R (Nat.le_refl _) (by decide) rfl (Nat.le_of_ble_eq_true rfl) rfl (fun X Q E => b_X7_game X Q  h E)
theorem mx_X7_game {I : Mem} {P : PMem} {O : Nat → Int64} {D : Bool} {n : Nat} {v1 : Int32} {v2 : Int32} {r : Nat}  (h : f_X7_game I P v1 v2 = some (Sum.inr r)) : MethX yX7_game cX7_game 8 (some .int) 9 [.inr (.inr (7, 0, 0)), .inl v1, .inl v2] I P O D n r I P O D (n + 1) := meth_X (Nat.le_succ _) (by decide) rfl (Nat.le_of_ble_eq_true rfl) rfl (fun X Q E => bx_X7_game X Q  h E)
def f_X7_guiltyInYear_77  (P : PMem) (I : Mem) : Option (Int32 × Mem) :=
  (f_X1_decideAll P 1 I).bind fun y1 =>
  (f_X1_howManyGuilty y1 P 1).bind fun y2 =>
  some (y2, y1)
theorem b_X7_guiltyInYear_77 (X : CX) (Q : State → Prop) {I : Mem} {P : PMem} {O : Nat → Int64} {D : Bool} {n : Nat} {r : (Int32 × Mem)}  (hD : D = true) (h : f_X7_guiltyInYear_77 P I = some r) (E : EndR X cX7_guiltyInYear RX7 6 (some .int) 5 n (some (.inl r.1)) r.2 P O D Q) : Here X cX7_guiltyInYear RX7 6 (some .int) 5 n 77 [some (.inr (.inr (7, 0, 0))), none, none, none, none, none] [] I P O D n Q := by
  unfold f_X7_guiltyInYear_77 at h
  refine h_aload_n dX7_guiltyInYear_77 rfl ?_
  refine g_X7_51  dX7_guiltyInYear_78 ?_
  obtain ⟨y1, hh1, h⟩ := obd_some h
  refine h_cVv [] (m_X1_decideAll (by decide) hh1) cw_X7_256 dX7_guiltyInYear_81 rfl (ok_1 (by decide)) (by decide) rfl (Or.inr rfl) rfl ?_
  refine h_aload_n dX7_guiltyInYear_84 rfl ?_
  refine g_X7_51  dX7_guiltyInYear_85 ?_
  obtain ⟨y2, hh2, h⟩ := obd_some h
  refine h_cVi [] (m_X1_howManyGuilty (by decide) hh2) cw_X7_135 dX7_guiltyInYear_88 rfl (ok_1 (by decide)) (by decide) rfl (Or.inr rfl) rfl ?_
  cases h
  exact h_iret dX7_guiltyInYear_91 rfl E
def f_X7_guiltyInYear_16  (P : PMem) : Nat → Mem → Int32 → Option (Int32 × Mem)
  | 0, _, _ => none
  | fu + 1, I, v2 =>
    if (2 : Int32) ≤ v2 then (f_X7_guiltyInYear_77 P I) else (gd (decide ((P 7 0 0 2) < 2)) <|
    if (I 3 (P 7 0 0 2) 0 0) ≤ 0 then (f_X7_guiltyInYear_77 P I) else ((f_X2_draw I (I 3 (P 7 0 0 2) 0 0)).bind fun y1 =>
    (f_X2_draw y1.2 (30 : Int32)).bind fun y2 =>
    (f_X2_draw y2.2 (6 : Int32)).bind fun y3 =>
    (f_X1_meetInFlood P 1 y3.2 y1.1 y2.1 y3.1).bind fun y4 =>
    (f_X7_guiltyInYear_16 P fu) y4 (v2 + (1 : Int32))))
theorem b_X7_guiltyInYear_16 (X : CX) (Q : State → Prop) {P : PMem} {O : Nat → Int64} {D : Bool} {n : Nat} {r : (Int32 × Mem)}  (hD : D = true) : ∀ (fu : Nat) {I : Mem} {v2 : Int32}, f_X7_guiltyInYear_16 P fu I v2 = some r → EndR X cX7_guiltyInYear RX7 6 (some .int) 5 n (some (.inl r.1)) r.2 P O D Q → Here X cX7_guiltyInYear RX7 6 (some .int) 5 n 16 [some (.inr (.inr (7, 0, 0))), some (.inr (.inr (2, 0, 0))), some (.inl v2), none, none, none] [] I P O D n Q := by
  intro fu
  induction fu with
  | zero => intro I v2 h E; cases h
  | succ fu ih =>
  intro I v2 h E
  have H16 : ∀ (I : Mem) (v2 : Int32), f_X7_guiltyInYear_16 P fu I v2 = some r → Here X cX7_guiltyInYear RX7 6 (some .int) 5 n 16 [some (.inr (.inr (7, 0, 0))), some (.inr (.inr (2, 0, 0))), some (.inl v2), none, none, none] [] I P O D n Q := fun _ _ b => ih b E
  simp only [f_X7_guiltyInYear_16] at h
  refine h_iload_n dX7_guiltyInYear_16 rfl ?_
  refine h_iconst (2 : Int32) dX7_guiltyInYear_17 k_iconst_2 ?_
  refine h_icmp_ge (tgt := 77) dX7_guiltyInYear_18 (by decide) (fun q1 => ?_) (fun q1 => ?_)
  · rw [if_pos q1] at h
    exact h_mask [true, false, false, false, false, false] (b_X7_guiltyInYear_77 X Q hD  h E)
  · rw [if_neg q1] at h
    refine h_aload_n dX7_guiltyInYear_21 rfl ?_
    refine g_X7_16  dX7_guiltyInYear_22 ?_
    obtain ⟨g1, h⟩ := gd_some h
    have w1 := of_decide_eq_true g1
    refine g_X7_97 (by omega) dX7_guiltyInYear_25 ?_
    refine h_if_le (tgt := 77) dX7_guiltyInYear_28 (by decide) (fun q2 => ?_) (fun q2 => ?_)
    · rw [if_pos q2] at h
      exact h_mask [true, false, false, false, false, false] (b_X7_guiltyInYear_77 X Q hD  h E)
    · rw [if_neg q2] at h
      refine h_aload_n dX7_guiltyInYear_31 rfl ?_
      refine h_aload_n dX7_guiltyInYear_32 rfl ?_
      refine g_X7_16  dX7_guiltyInYear_33 ?_
      refine g_X7_97 (by omega) dX7_guiltyInYear_36 ?_
      obtain ⟨y1, hh1, h⟩ := obd_some h
      refine h_cVi [.inl (I 3 (P 7 0 0 2) 0 0)] (m_X2_draw hD hh1) cw_X7_308 dX7_guiltyInYear_39 rfl (by rw [hD]; rfl) (by decide) rfl (Or.inr rfl) rfl ?_
      refine h_istore_n dX7_guiltyInYear_42 (by decide) rfl ?_
      refine h_aload_n dX7_guiltyInYear_43 rfl ?_
      refine h_bipush (30 : Int32) dX7_guiltyInYear_44 k_bipush_30 ?_
      obtain ⟨y2, hh2, h⟩ := obd_some h
      refine h_cVi [.inl (30 : Int32)] (m_X2_draw hD hh2) cw_X7_308 dX7_guiltyInYear_46 rfl (by rw [hD]; rfl) (by decide) rfl (Or.inr rfl) rfl ?_
      refine h_istore dX7_guiltyInYear_49 (by decide) rfl ?_
      refine h_aload_n dX7_guiltyInYear_51 rfl ?_
      refine h_bipush (6 : Int32) dX7_guiltyInYear_52 k_bipush_6 ?_
      obtain ⟨y3, hh3, h⟩ := obd_some h
      refine h_cVi [.inl (6 : Int32)] (m_X2_draw hD hh3) cw_X7_308 dX7_guiltyInYear_54 rfl (by rw [hD]; rfl) (by decide) rfl (Or.inr rfl) rfl ?_
      refine h_istore dX7_guiltyInYear_57 (by decide) rfl ?_
      refine h_aload_n dX7_guiltyInYear_59 rfl ?_
      refine g_X7_51  dX7_guiltyInYear_60 ?_
      refine h_iload_n dX7_guiltyInYear_63 rfl ?_
      refine h_iload dX7_guiltyInYear_64 rfl ?_
      refine h_iload dX7_guiltyInYear_66 rfl ?_
      obtain ⟨y4, hh4, h⟩ := obd_some h
      refine h_cVv [.inl y1.1, .inl y2.1, .inl y3.1] (m_X1_meetInFlood (by decide) hh4) cw_X7_311 dX7_guiltyInYear_68 rfl (ok_1 (by decide)) (by decide) rfl (Or.inr rfl) rfl ?_
      refine h_iinc (1 : Int32) dX7_guiltyInYear_71 rfl k_iinc_1 (by decide) rfl ?_
      refine h_goto (tgt := 16) dX7_guiltyInYear_74 (by decide) ?_
      exact h_mask [true, true, true, false, false, false] (H16 _ _ h)
def f_X7_guiltyInYear  (P : PMem) (I : Mem) : Option (Int32 × Mem) :=
  (f_X1_meetAll P 1 I (I 0 0 0 1)).bind fun y1 =>
  f_X7_guiltyInYear_16 P FU y1 (0 : Int32)
theorem b_X7_guiltyInYear (X : CX) (Q : State → Prop) {I : Mem} {P : PMem} {O : Nat → Int64} {D : Bool} {n : Nat} {r : (Int32 × Mem)}  (hD : D = true) (h : f_X7_guiltyInYear P I = some r) (E : EndR X cX7_guiltyInYear RX7 6 (some .int) 5 n (some (.inl r.1)) r.2 P O D Q) : Here X cX7_guiltyInYear RX7 6 (some .int) 5 n 0 [some (.inr (.inr (7, 0, 0))), some (.inr (.inr (2, 0, 0))), none, none, none, none] [] I P O D n Q := by
  unfold f_X7_guiltyInYear at h
  refine h_aload_n dX7_guiltyInYear_0 rfl ?_
  refine g_X7_51  dX7_guiltyInYear_1 ?_
  refine h_aload_n dX7_guiltyInYear_4 rfl ?_
  refine g_X7_35  dX7_guiltyInYear_5 ?_
  refine g_X7_113 (by decide) dX7_guiltyInYear_8 ?_
  obtain ⟨y1, hh1, h⟩ := obd_some h
  refine h_cVv [.inl (I 0 0 0 1)] (m_X1_meetAll (by decide) hh1) cw_X7_253 dX7_guiltyInYear_11 rfl (ok_1 (by decide)) (by decide) rfl (Or.inr rfl) rfl ?_
  refine h_iconst (0 : Int32) dX7_guiltyInYear_14 k_iconst_0 ?_
  refine h_istore_n dX7_guiltyInYear_15 (by decide) rfl ?_
  exact (b_X7_guiltyInYear_16 X Q hD FU  h E)
theorem m_X7_guiltyInYear {I : Mem} {P : PMem} {O : Nat → Int64} {D : Bool} {n : Nat}  {r : (Int32 × Mem)}  (hD : D = true) (h : f_X7_guiltyInYear P I = some r) : MethR yX7_guiltyInYear cX7_guiltyInYear 6 (some .int) 5 [.inr (.inr (7, 0, 0)), .inr (.inr (2, 0, 0))] I P O D n (some (.inl r.1)) r.2 P O D n := meth_R (Nat.le_refl _) (by decide) rfl (Nat.le_of_ble_eq_true rfl) rfl (fun X Q E => b_X7_guiltyInYear X Q  hD h E)
def f_X7_image   (I : Mem) : Option (Mem) :=
  (f_X0_copyFrom 1 0 I).bind fun y1 =>
  bnd (upd4 y1 7 0 0 7 (1 : Int32)) fun I1' =>
  some I1'
theorem b_X7_image (X : CX) (Q : State → Prop) {I : Mem} {P : PMem} {O : Nat → Int64} {D : Bool} {n : Nat} {r : (Mem)}  (h : f_X7_image I = some r) (E : EndR X cX7_image RX7 1 (none) 4 n none r P O D Q) : Here X cX7_image RX7 1 (none) 4 n 0 [some (.inr (.inr (7, 0, 0)))] [] I P O D n Q := by
  unfold f_X7_image at h
  refine h_aload_n dX7_image_0 rfl ?_
  refine g_X7_39  dX7_image_1 ?_
  refine h_aload_n dX7_image_4 rfl ?_
  refine g_X7_35  dX7_image_5 ?_
  obtain ⟨y1, hh1, h⟩ := obd_some h
  refine h_cVv [.inr (.inr (0, 0, 0))] (m_X0_copyFrom (by decide) (by decide) hh1) cw_X7_314 dX7_image_8 rfl (ok_0 (by decide)) (by decide) rfl (Or.inr rfl) rfl ?_
  refine h_aload_n dX7_image_11 rfl ?_
  refine h_iconst (1 : Int32) dX7_image_12 k_iconst_1 ?_
  obtain ⟨I1', e1, h⟩ := bnd_some h
  refine p_X7_90  rfl dX7_image_13 ?_
  refine h_nmI e1 ?_
  cases h
  exact h_vret dX7_image_16 rfl E
theorem m_X7_image {I : Mem} {P : PMem} {O : Nat → Int64} {D : Bool} {n : Nat}  {r : (Mem)}  (h : f_X7_image I = some r) : MethR yX7_image cX7_image 1 (none) 4 [.inr (.inr (7, 0, 0))] I P O D n none r P O D n := meth_R (Nat.le_refl _) (by decide) rfl (Nat.le_of_ble_eq_true rfl) rfl (fun X Q E => b_X7_image X Q  h E)
def f_X7_restore   (I : Mem) : Option (Int32 × Mem) :=
  if (I 7 0 0 7) = 0 then (some ((0 : Int32), I)) else ((f_X0_copyFrom 0 1 I).bind fun y1 =>
  bnd (upd4 y1 7 0 0 10 (0 : Int32)) fun I1' =>
  some ((1 : Int32), I1'))
theorem b_X7_restore (X : CX) (Q : State → Prop) {I : Mem} {P : PMem} {O : Nat → Int64} {D : Bool} {n : Nat} {r : (Int32 × Mem)}  (h : f_X7_restore I = some r) (E : EndR X cX7_restore RX7 1 (some .boolean) 4 n (some (.inl r.1)) r.2 P O D Q) : Here X cX7_restore RX7 1 (some .boolean) 4 n 0 [some (.inr (.inr (7, 0, 0)))] [] I P O D n Q := by
  unfold f_X7_restore at h
  refine h_aload_n dX7_restore_0 rfl ?_
  refine g_X7_90  dX7_restore_1 ?_
  refine h_if_ne (tgt := 9) dX7_restore_4 (by decide) (fun q1 => ?_) (fun q1 => ?_)
  · rw [if_neg q1] at h
    refine h_aload_n dX7_restore_9 rfl ?_
    refine g_X7_35  dX7_restore_10 ?_
    refine h_aload_n dX7_restore_13 rfl ?_
    refine g_X7_39  dX7_restore_14 ?_
    obtain ⟨y1, hh1, h⟩ := obd_some h
    refine h_cVv [.inr (.inr (0, 1, 0))] (m_X0_copyFrom (by decide) (by decide) hh1) cw_X7_314 dX7_restore_17 rfl (ok_0 (by decide)) (by decide) rfl (Or.inr rfl) rfl ?_
    refine h_aload_n dX7_restore_20 rfl ?_
    refine h_iconst (0 : Int32) dX7_restore_21 k_iconst_0 ?_
    obtain ⟨I1', e1, h⟩ := bnd_some h
    refine p_X7_94  rfl dX7_restore_22 ?_
    refine h_nmI e1 ?_
    refine h_iconst (1 : Int32) dX7_restore_25 k_iconst_1 ?_
    cases h
    exact h_zret dX7_restore_26 rfl rfl E
  · rw [if_pos q1] at h
    refine h_iconst (0 : Int32) dX7_restore_7 k_iconst_0 ?_
    cases h
    exact h_zret dX7_restore_8 rfl rfl E
theorem m_X7_restore {I : Mem} {P : PMem} {O : Nat → Int64} {D : Bool} {n : Nat}  {r : (Int32 × Mem)}  (h : f_X7_restore I = some r) : MethR yX7_restore cX7_restore 1 (some .boolean) 4 [.inr (.inr (7, 0, 0))] I P O D n (some (.inl r.1)) r.2 P O D n := meth_R (Nat.le_refl _) (by decide) rfl (Nat.le_of_ble_eq_true rfl) rfl (fun X Q E => b_X7_restore X Q  h E)
def f_X8_thrown  (I : Mem)  : Option (Int32) :=
  some (I 8 0 0 2)
theorem b_X8_thrown (X : CX) (Q : State → Prop) {I : Mem} {P : PMem} {O : Nat → Int64} {D : Bool} {n : Nat} {r : (Int32)}  (h : f_X8_thrown I = some r) (E : EndR X cX8_thrown RX8 1 (some .int) 2 n (some (.inl r)) I P O D Q) : Here X cX8_thrown RX8 1 (some .int) 2 n 0 [some (.inr (.inr (8, 0, 0)))] [] I P O D n Q := by
  unfold f_X8_thrown at h
  refine h_aload_n dX8_thrown_0 rfl ?_
  refine g_X8_150  dX8_thrown_1 ?_
  cases h
  exact h_iret dX8_thrown_4 rfl E
theorem m_X8_thrown {I : Mem} {P : PMem} {O : Nat → Int64} {D : Bool} {n : Nat}  {r : (Int32)}  (h : f_X8_thrown I = some r) : MethR yX8_thrown cX8_thrown 1 (some .int) 2 [.inr (.inr (8, 0, 0))] I P O D n (some (.inl r)) I P O D n := meth_R (Nat.le_refl _) (by decide) rfl (Nat.le_of_ble_eq_true rfl) rfl (fun X Q E => b_X8_thrown X Q  h E)
def f_X8_fail   (I : Mem) (v1 : Int32) : Option (Int32 × Mem) :=
  bnd (upd4 I 8 0 0 2 v1) fun I1' =>
  some ((0 : Int32), I1')
theorem b_X8_fail (X : CX) (Q : State → Prop) {I : Mem} {P : PMem} {O : Nat → Int64} {D : Bool} {n : Nat} {v1 : Int32} {r : (Int32 × Mem)}  (h : f_X8_fail I v1 = some r) (E : EndR X cX8_fail RX8 2 (some .int) 2 n (some (.inl r.1)) r.2 P O D Q) : Here X cX8_fail RX8 2 (some .int) 2 n 0 [some (.inr (.inr (8, 0, 0))), some (.inl v1)] [] I P O D n Q := by
  unfold f_X8_fail at h
  refine h_aload_n dX8_fail_0 rfl ?_
  refine h_iload_n dX8_fail_1 rfl ?_
  obtain ⟨I1', e1, h⟩ := bnd_some h
  refine p_X8_150  dX8_fail_2 ?_
  refine h_nmI e1 ?_
  refine h_iconst (0 : Int32) dX8_fail_5 k_iconst_0 ?_
  cases h
  exact h_iret dX8_fail_6 rfl E
theorem m_X8_fail {I : Mem} {P : PMem} {O : Nat → Int64} {D : Bool} {n : Nat} {v1 : Int32} {r : (Int32 × Mem)}  (h : f_X8_fail I v1 = some r) : MethR yX8_fail cX8_fail 2 (some .int) 2 [.inr (.inr (8, 0, 0)), .inl v1] I P O D n (some (.inl r.1)) r.2 P O D n := meth_R (Nat.le_refl _) (by decide) rfl (Nat.le_of_ble_eq_true rfl) rfl (fun X Q E => b_X8_fail X Q  h E)
def f_X8_isIn  (I : Mem) (v0 : Int64) (v2 : Int64) (v4 : Int64) : Option (Int32) :=
  if (lg_cmp v0 v2) < 0 then (some (0 : Int32)) else (if 0 < (lg_cmp v0 v4) then (some (0 : Int32)) else (some (1 : Int32)))
theorem b_X8_isIn (X : CX) (Q : State → Prop) {I : Mem} {P : PMem} {O : Nat → Int64} {D : Bool} {n : Nat} {v0 : Int64} {v2 : Int64} {v4 : Int64} {r : (Int32)}  (h : f_X8_isIn I v0 v2 v4 = some r) (E : EndR X cX8_isIn RX8 6 (some .boolean) 2 n (some (.inl r)) I P O D Q) : Here X cX8_isIn RX8 6 (some .boolean) 2 n 0 [some (.inr (.inl v0)), none, some (.inr (.inl v2)), none, some (.inr (.inl v4)), none] [] I P O D n Q := by
  unfold f_X8_isIn at h
  refine h_lload_n dX8_isIn_0 rfl ?_
  refine h_lload_n dX8_isIn_1 rfl ?_
  refine h_lcmp dX8_isIn_2 ?_
  refine h_if_lt (tgt := 17) dX8_isIn_3 (by decide) (fun q1 => ?_) (fun q1 => ?_)
  · rw [if_pos q1] at h
    refine h_iconst (0 : Int32) dX8_isIn_17 k_iconst_0 ?_
    cases h
    exact h_zret dX8_isIn_18 rfl rfl E
  · rw [if_neg q1] at h
    refine h_lload_n dX8_isIn_6 rfl ?_
    refine h_lload dX8_isIn_7 rfl ?_
    refine h_lcmp dX8_isIn_9 ?_
    refine h_if_gt (tgt := 17) dX8_isIn_10 (by decide) (fun q2 => ?_) (fun q2 => ?_)
    · rw [if_pos q2] at h
      refine h_iconst (0 : Int32) dX8_isIn_17 k_iconst_0 ?_
      cases h
      exact h_zret dX8_isIn_18 rfl rfl E
    · rw [if_neg q2] at h
      refine h_iconst (1 : Int32) dX8_isIn_13 k_iconst_1 ?_
      refine h_goto (tgt := 18) dX8_isIn_14 (by decide) ?_
      cases h
      exact h_zret dX8_isIn_18 rfl rfl E
theorem m_X8_isIn {I : Mem} {P : PMem} {O : Nat → Int64} {D : Bool} {n : Nat} {v0 : Int64} {v2 : Int64} {v4 : Int64} {r : (Int32)}  (h : f_X8_isIn I v0 v2 v4 = some r) : MethR yX8_isIn cX8_isIn 6 (some .boolean) 2 [.inr (.inl v0), .inr (.inl v2), .inr (.inl v4)] I P O D n (some (.inl r)) I P O D n := meth_R (Nat.le_refl _) (by decide) rfl (Nat.le_of_ble_eq_true rfl) rfl (fun X Q E => b_X8_isIn X Q  h E)
def f_X8_isTown  (I : Mem) (v1 : Int32) : Option (Int32) :=
  (f_X8_isIn I v1.toInt64 (0 : Int64) (((I 50 0 0 0) - (1 : Int32)).toInt64)).bind fun y1 =>
  gd (y1 == 0 || y1 == 1) <|
  some y1
theorem b_X8_isTown (X : CX) (Q : State → Prop) {I : Mem} {P : PMem} {O : Nat → Int64} {D : Bool} {n : Nat} {v1 : Int32} {r : (Int32)}  (h : f_X8_isTown I v1 = some r) (E : EndR X cX8_isTown RX8 2 (some .boolean) 3 n (some (.inl r)) I P O D Q) : Here X cX8_isTown RX8 2 (some .boolean) 3 n 0 [some (.inr (.inr (8, 0, 0))), some (.inl v1)] [] I P O D n Q := by
  unfold f_X8_isTown at h
  refine h_iload_n dX8_isTown_0 rfl ?_
  refine h_i2l dX8_isTown_1 ?_
  refine h_lconst 0 dX8_isTown_2 rfl ?_
  refine h_aload_n dX8_isTown_3 rfl ?_
  refine g_X8_34  dX8_isTown_4 ?_
  refine h_iconst (0 : Int32) dX8_isTown_7 k_iconst_0 ?_
  refine al_50  0 cl_0 dX8_isTown_8 rfl ?_
  refine h_iconst (1 : Int32) dX8_isTown_9 k_iconst_1 ?_
  refine h_isub dX8_isTown_10 ?_
  refine h_i2l dX8_isTown_11 ?_
  obtain ⟨y1, hh1, h⟩ := obd_some h
  refine h_cSi [.inr (.inl v1.toInt64), .inr (.inl (0 : Int64)), .inr (.inl (((I 50 0 0 0) - (1 : Int32)).toInt64))] (m_X8_isIn  hh1) cs_X8_153 dX8_isTown_12 rfl (by decide) rfl (Or.inr rfl) rfl ?_
  obtain ⟨g1, h⟩ := gd_some h
  cases h
  exact h_zret dX8_isTown_15 rfl g1 E
theorem m_X8_isTown {I : Mem} {P : PMem} {O : Nat → Int64} {D : Bool} {n : Nat} {v1 : Int32} {r : (Int32)}  (h : f_X8_isTown I v1 = some r) : MethR yX8_isTown cX8_isTown 2 (some .boolean) 3 [.inr (.inr (8, 0, 0)), .inl v1] I P O D n (some (.inl r)) I P O D n := meth_R (Nat.le_refl _) (by decide) rfl (Nat.le_of_ble_eq_true rfl) rfl (fun X Q E => b_X8_isTown X Q  h E)
def f_X8_isJudge  (I : Mem) (v1 : Int32) : Option (Int32) :=
  (f_X8_isIn I v1.toInt64 (0 : Int64) (((I 50 0 0 4) - (1 : Int32)).toInt64)).bind fun y1 =>
  gd (y1 == 0 || y1 == 1) <|
  some y1
theorem b_X8_isJudge (X : CX) (Q : State → Prop) {I : Mem} {P : PMem} {O : Nat → Int64} {D : Bool} {n : Nat} {v1 : Int32} {r : (Int32)}  (h : f_X8_isJudge I v1 = some r) (E : EndR X cX8_isJudge RX8 2 (some .boolean) 3 n (some (.inl r)) I P O D Q) : Here X cX8_isJudge RX8 2 (some .boolean) 3 n 0 [some (.inr (.inr (8, 0, 0))), some (.inl v1)] [] I P O D n Q := by
  unfold f_X8_isJudge at h
  refine h_iload_n dX8_isJudge_0 rfl ?_
  refine h_i2l dX8_isJudge_1 ?_
  refine h_lconst 0 dX8_isJudge_2 rfl ?_
  refine h_aload_n dX8_isJudge_3 rfl ?_
  refine g_X8_34  dX8_isJudge_4 ?_
  refine h_iconst (4 : Int32) dX8_isJudge_7 k_iconst_4 ?_
  refine al_50  4 cl_4 dX8_isJudge_8 rfl ?_
  refine h_iconst (1 : Int32) dX8_isJudge_9 k_iconst_1 ?_
  refine h_isub dX8_isJudge_10 ?_
  refine h_i2l dX8_isJudge_11 ?_
  obtain ⟨y1, hh1, h⟩ := obd_some h
  refine h_cSi [.inr (.inl v1.toInt64), .inr (.inl (0 : Int64)), .inr (.inl (((I 50 0 0 4) - (1 : Int32)).toInt64))] (m_X8_isIn  hh1) cs_X8_153 dX8_isJudge_12 rfl (by decide) rfl (Or.inr rfl) rfl ?_
  obtain ⟨g1, h⟩ := gd_some h
  cases h
  exact h_zret dX8_isJudge_15 rfl g1 E
theorem m_X8_isJudge {I : Mem} {P : PMem} {O : Nat → Int64} {D : Bool} {n : Nat} {v1 : Int32} {r : (Int32)}  (h : f_X8_isJudge I v1 = some r) : MethR yX8_isJudge cX8_isJudge 2 (some .boolean) 3 [.inr (.inr (8, 0, 0)), .inl v1] I P O D n (some (.inl r)) I P O D n := meth_R (Nat.le_refl _) (by decide) rfl (Nat.le_of_ble_eq_true rfl) rfl (fun X Q E => b_X8_isJudge X Q  h E)
def f_X8_isCase  (I : Mem) (v1 : Int32) : Option (Int32) :=
  (f_X8_isIn I v1.toInt64 (0 : Int64) (((I 50 0 0 5) - (1 : Int32)).toInt64)).bind fun y1 =>
  gd (y1 == 0 || y1 == 1) <|
  some y1
theorem b_X8_isCase (X : CX) (Q : State → Prop) {I : Mem} {P : PMem} {O : Nat → Int64} {D : Bool} {n : Nat} {v1 : Int32} {r : (Int32)}  (h : f_X8_isCase I v1 = some r) (E : EndR X cX8_isCase RX8 2 (some .boolean) 3 n (some (.inl r)) I P O D Q) : Here X cX8_isCase RX8 2 (some .boolean) 3 n 0 [some (.inr (.inr (8, 0, 0))), some (.inl v1)] [] I P O D n Q := by
  unfold f_X8_isCase at h
  refine h_iload_n dX8_isCase_0 rfl ?_
  refine h_i2l dX8_isCase_1 ?_
  refine h_lconst 0 dX8_isCase_2 rfl ?_
  refine h_aload_n dX8_isCase_3 rfl ?_
  refine g_X8_34  dX8_isCase_4 ?_
  refine h_iconst (5 : Int32) dX8_isCase_7 k_iconst_5 ?_
  refine al_50  5 cl_5 dX8_isCase_8 rfl ?_
  refine h_iconst (1 : Int32) dX8_isCase_9 k_iconst_1 ?_
  refine h_isub dX8_isCase_10 ?_
  refine h_i2l dX8_isCase_11 ?_
  obtain ⟨y1, hh1, h⟩ := obd_some h
  refine h_cSi [.inr (.inl v1.toInt64), .inr (.inl (0 : Int64)), .inr (.inl (((I 50 0 0 5) - (1 : Int32)).toInt64))] (m_X8_isIn  hh1) cs_X8_153 dX8_isCase_12 rfl (by decide) rfl (Or.inr rfl) rfl ?_
  obtain ⟨g1, h⟩ := gd_some h
  cases h
  exact h_zret dX8_isCase_15 rfl g1 E
theorem m_X8_isCase {I : Mem} {P : PMem} {O : Nat → Int64} {D : Bool} {n : Nat} {v1 : Int32} {r : (Int32)}  (h : f_X8_isCase I v1 = some r) : MethR yX8_isCase cX8_isCase 2 (some .boolean) 3 [.inr (.inr (8, 0, 0)), .inl v1] I P O D n (some (.inl r)) I P O D n := meth_R (Nat.le_refl _) (by decide) rfl (Nat.le_of_ble_eq_true rfl) rfl (fun X Q E => b_X8_isCase X Q  h E)
