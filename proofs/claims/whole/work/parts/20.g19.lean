theorem dX8_mercy_0 : decode cX8_mercy 0 = .ok (.aload_n 0, 1) := by decide +kernel
theorem dX8_mercy_1 : decode cX8_mercy 1 = .ok (.iconst 0, 1) := by decide +kernel
theorem dX8_mercy_2 : decode cX8_mercy 2 = .ok (.putfield 150, 3) := by decide +kernel
theorem dX8_mercy_5 : decode cX8_mercy 5 = .ok (.aload_n 0, 1) := by decide +kernel
theorem dX8_mercy_6 : decode cX8_mercy 6 = .ok (.iload_n 1, 1) := by decide +kernel
theorem dX8_mercy_7 : decode cX8_mercy 7 = .ok (.invokevirtual 424, 3) := by decide +kernel
theorem dX8_mercy_10 : decode cX8_mercy 10 = .ok (.ifCond .ne 9, 3) := by decide +kernel
theorem dX8_mercy_13 : decode cX8_mercy 13 = .ok (.aload_n 0, 1) := by decide +kernel
theorem dX8_mercy_14 : decode cX8_mercy 14 = .ok (.iconst 1, 1) := by decide +kernel
theorem dX8_mercy_15 : decode cX8_mercy 15 = .ok (.invokevirtual 298, 3) := by decide +kernel
theorem dX8_mercy_18 : decode cX8_mercy 18 = .ok (.ireturn, 1) := by decide +kernel
theorem dX8_mercy_19 : decode cX8_mercy 19 = .ok (.aload_n 0, 1) := by decide +kernel
theorem dX8_mercy_20 : decode cX8_mercy 20 = .ok (.invokevirtual 410, 3) := by decide +kernel
theorem dX8_mercy_23 : decode cX8_mercy 23 = .ok (.pop, 1) := by decide +kernel
theorem dX8_mercy_24 : decode cX8_mercy 24 = .ok (.aload_n 0, 1) := by decide +kernel
theorem dX8_mercy_25 : decode cX8_mercy 25 = .ok (.iload_n 1, 1) := by decide +kernel
theorem dX8_mercy_26 : decode cX8_mercy 26 = .ok (.putfield 103, 3) := by decide +kernel
theorem dX8_mercy_29 : decode cX8_mercy 29 = .ok (.iconst (-1), 1) := by decide +kernel
theorem dX8_mercy_30 : decode cX8_mercy 30 = .ok (.istore_n 2, 1) := by decide +kernel
theorem dX8_mercy_31 : decode cX8_mercy 31 = .ok (.iconst 0, 1) := by decide +kernel
theorem dX8_mercy_32 : decode cX8_mercy 32 = .ok (.istore_n 3, 1) := by decide +kernel
theorem dX8_mercy_33 : decode cX8_mercy 33 = .ok (.iload_n 3, 1) := by decide +kernel
theorem dX8_mercy_34 : decode cX8_mercy 34 = .ok (.iconst 1, 1) := by decide +kernel
theorem dX8_mercy_35 : decode cX8_mercy 35 = .ok (.aload_n 0, 1) := by decide +kernel
theorem dX8_mercy_36 : decode cX8_mercy 36 = .ok (.getfield 34, 3) := by decide +kernel
theorem dX8_mercy_39 : decode cX8_mercy 39 = .ok (.iconst 4, 1) := by decide +kernel
theorem dX8_mercy_40 : decode cX8_mercy 40 = .ok (.iaload, 1) := by decide +kernel
theorem dX8_mercy_41 : decode cX8_mercy 41 = .ok (.ishl, 1) := by decide +kernel
theorem dX8_mercy_42 : decode cX8_mercy 42 = .ok (.if_icmp .ge 64, 3) := by decide +kernel
theorem dX8_mercy_45 : decode cX8_mercy 45 = .ok (.iload_n 3, 1) := by decide +kernel
theorem dX8_mercy_46 : decode cX8_mercy 46 = .ok (.aload_n 0, 1) := by decide +kernel
theorem dX8_mercy_47 : decode cX8_mercy 47 = .ok (.getfield 343, 3) := by decide +kernel
theorem dX8_mercy_50 : decode cX8_mercy 50 = .ok (.iand, 1) := by decide +kernel
theorem dX8_mercy_51 : decode cX8_mercy 51 = .ok (.ifCond .ne 49, 3) := by decide +kernel
theorem dX8_mercy_54 : decode cX8_mercy 54 = .ok (.iload_n 2, 1) := by decide +kernel
theorem dX8_mercy_55 : decode cX8_mercy 55 = .ok (.iconst (-1), 1) := by decide +kernel
theorem dX8_mercy_56 : decode cX8_mercy 56 = .ok (.if_icmp .eq 17, 3) := by decide +kernel
theorem dX8_mercy_59 : decode cX8_mercy 59 = .ok (.iload_n 3, 1) := by decide +kernel
theorem dX8_mercy_60 : decode cX8_mercy 60 = .ok (.invokestatic 452, 3) := by decide +kernel
theorem dX8_mercy_63 : decode cX8_mercy 63 = .ok (.iload_n 2, 1) := by decide +kernel
theorem dX8_mercy_64 : decode cX8_mercy 64 = .ok (.invokestatic 452, 3) := by decide +kernel
theorem dX8_mercy_67 : decode cX8_mercy 67 = .ok (.if_icmp .lt 6, 3) := by decide +kernel
theorem dX8_mercy_70 : decode cX8_mercy 70 = .ok (.goto 30, 3) := by decide +kernel
theorem dX8_mercy_73 : decode cX8_mercy 73 = .ok (.aload_n 0, 1) := by decide +kernel
theorem dX8_mercy_74 : decode cX8_mercy 74 = .ok (.iload_n 3, 1) := by decide +kernel
theorem dX8_mercy_75 : decode cX8_mercy 75 = .ok (.putfield 340, 3) := by decide +kernel
theorem dX8_mercy_78 : decode cX8_mercy 78 = .ok (.aload_n 0, 1) := by decide +kernel
theorem dX8_mercy_79 : decode cX8_mercy 79 = .ok (.iload_n 1, 1) := by decide +kernel
theorem dX8_mercy_80 : decode cX8_mercy 80 = .ok (.invokevirtual 401, 3) := by decide +kernel
theorem dX8_mercy_83 : decode cX8_mercy 83 = .ok (.aload_n 0, 1) := by decide +kernel
theorem dX8_mercy_84 : decode cX8_mercy 84 = .ok (.getfield 117, 3) := by decide +kernel
theorem dX8_mercy_87 : decode cX8_mercy 87 = .ok (.iload_n 1, 1) := by decide +kernel
theorem dX8_mercy_88 : decode cX8_mercy 88 = .ok (.iaload, 1) := by decide +kernel
theorem dX8_mercy_89 : decode cX8_mercy 89 = .ok (.ldc 186, 2) := by decide +kernel
theorem dX8_mercy_91 : decode cX8_mercy 91 = .ok (.if_icmp .lt 7, 3) := by decide +kernel
theorem dX8_mercy_94 : decode cX8_mercy 94 = .ok (.iload_n 3, 1) := by decide +kernel
theorem dX8_mercy_95 : decode cX8_mercy 95 = .ok (.goto 4, 3) := by decide +kernel
theorem dX8_mercy_98 : decode cX8_mercy 98 = .ok (.iload_n 2, 1) := by decide +kernel
theorem dX8_mercy_99 : decode cX8_mercy 99 = .ok (.istore_n 2, 1) := by decide +kernel
theorem dX8_mercy_100 : decode cX8_mercy 100 = .ok (.iinc 3 1, 3) := by decide +kernel
theorem dX8_mercy_103 : decode cX8_mercy 103 = .ok (.goto (-70), 3) := by decide +kernel
theorem dX8_mercy_106 : decode cX8_mercy 106 = .ok (.iload_n 2, 1) := by decide +kernel
theorem dX8_mercy_107 : decode cX8_mercy 107 = .ok (.ireturn, 1) := by decide +kernel
theorem dX8_deaf_0 : decode cX8_deaf 0 = .ok (.aload_n 0, 1) := by decide +kernel
theorem dX8_deaf_1 : decode cX8_deaf 1 = .ok (.iconst 0, 1) := by decide +kernel
theorem dX8_deaf_2 : decode cX8_deaf 2 = .ok (.putfield 150, 3) := by decide +kernel
theorem dX8_deaf_5 : decode cX8_deaf 5 = .ok (.aload_n 0, 1) := by decide +kernel
theorem dX8_deaf_6 : decode cX8_deaf 6 = .ok (.iload_n 1, 1) := by decide +kernel
theorem dX8_deaf_7 : decode cX8_deaf 7 = .ok (.invokevirtual 419, 3) := by decide +kernel
theorem dX8_deaf_10 : decode cX8_deaf 10 = .ok (.ifCond .ne 9, 3) := by decide +kernel
theorem dX8_deaf_13 : decode cX8_deaf 13 = .ok (.aload_n 0, 1) := by decide +kernel
theorem dX8_deaf_14 : decode cX8_deaf 14 = .ok (.iconst 1, 1) := by decide +kernel
theorem dX8_deaf_15 : decode cX8_deaf 15 = .ok (.invokevirtual 298, 3) := by decide +kernel
theorem dX8_deaf_18 : decode cX8_deaf 18 = .ok (.ireturn, 1) := by decide +kernel
theorem dX8_deaf_19 : decode cX8_deaf 19 = .ok (.aload_n 0, 1) := by decide +kernel
theorem dX8_deaf_20 : decode cX8_deaf 20 = .ok (.invokevirtual 410, 3) := by decide +kernel
theorem dX8_deaf_23 : decode cX8_deaf 23 = .ok (.pop, 1) := by decide +kernel
theorem dX8_deaf_24 : decode cX8_deaf 24 = .ok (.aload_n 0, 1) := by decide +kernel
theorem dX8_deaf_25 : decode cX8_deaf 25 = .ok (.dup, 1) := by decide +kernel
theorem dX8_deaf_26 : decode cX8_deaf 26 = .ok (.getfield 343, 3) := by decide +kernel
theorem dX8_deaf_29 : decode cX8_deaf 29 = .ok (.iconst 1, 1) := by decide +kernel
theorem dX8_deaf_30 : decode cX8_deaf 30 = .ok (.iload_n 1, 1) := by decide +kernel
theorem dX8_deaf_31 : decode cX8_deaf 31 = .ok (.ishl, 1) := by decide +kernel
theorem dX8_deaf_32 : decode cX8_deaf 32 = .ok (.ixor, 1) := by decide +kernel
theorem dX8_deaf_33 : decode cX8_deaf 33 = .ok (.putfield 343, 3) := by decide +kernel
theorem dX8_deaf_36 : decode cX8_deaf 36 = .ok (.aload_n 0, 1) := by decide +kernel
theorem dX8_deaf_37 : decode cX8_deaf 37 = .ok (.invokevirtual 398, 3) := by decide +kernel
theorem dX8_deaf_40 : decode cX8_deaf 40 = .ok (.ireturn, 1) := by decide +kernel
theorem dX8_soonest_0 : decode cX8_soonest 0 = .ok (.aload_n 0, 1) := by decide +kernel
theorem dX8_soonest_1 : decode cX8_soonest 1 = .ok (.iconst 0, 1) := by decide +kernel
theorem dX8_soonest_2 : decode cX8_soonest 2 = .ok (.putfield 150, 3) := by decide +kernel
theorem dX8_soonest_5 : decode cX8_soonest 5 = .ok (.iload_n 1, 1) := by decide +kernel
theorem dX8_soonest_6 : decode cX8_soonest 6 = .ok (.ifCond .lt 8, 3) := by decide +kernel
theorem dX8_soonest_9 : decode cX8_soonest 9 = .ok (.iload_n 1, 1) := by decide +kernel
theorem dX8_soonest_10 : decode cX8_soonest 10 = .ok (.iconst 1, 1) := by decide +kernel
theorem dX8_soonest_11 : decode cX8_soonest 11 = .ok (.if_icmp .le 9, 3) := by decide +kernel
theorem dX8_soonest_14 : decode cX8_soonest 14 = .ok (.aload_n 0, 1) := by decide +kernel
theorem dX8_soonest_15 : decode cX8_soonest 15 = .ok (.iconst 1, 1) := by decide +kernel
theorem dX8_soonest_16 : decode cX8_soonest 16 = .ok (.invokevirtual 298, 3) := by decide +kernel
theorem dX8_soonest_19 : decode cX8_soonest 19 = .ok (.ireturn, 1) := by decide +kernel
theorem dX8_soonest_20 : decode cX8_soonest 20 = .ok (.aload_n 0, 1) := by decide +kernel
theorem dX8_soonest_21 : decode cX8_soonest 21 = .ok (.invokevirtual 410, 3) := by decide +kernel
theorem dX8_soonest_24 : decode cX8_soonest 24 = .ok (.pop, 1) := by decide +kernel
theorem dX8_soonest_25 : decode cX8_soonest 25 = .ok (.ldc 186, 2) := by decide +kernel
theorem dX8_soonest_27 : decode cX8_soonest 27 = .ok (.istore_n 2, 1) := by decide +kernel
theorem dX8_soonest_28 : decode cX8_soonest 28 = .ok (.iconst (-1), 1) := by decide +kernel
theorem dX8_soonest_29 : decode cX8_soonest 29 = .ok (.istore_n 3, 1) := by decide +kernel
theorem dX8_soonest_30 : decode cX8_soonest 30 = .ok (.iconst 0, 1) := by decide +kernel
theorem dX8_soonest_31 : decode cX8_soonest 31 = .ok (.istore 4, 2) := by decide +kernel
theorem dX8_soonest_33 : decode cX8_soonest 33 = .ok (.iload 4, 2) := by decide +kernel
theorem dX8_soonest_35 : decode cX8_soonest 35 = .ok (.aload_n 0, 1) := by decide +kernel
theorem dX8_soonest_36 : decode cX8_soonest 36 = .ok (.getfield 34, 3) := by decide +kernel
theorem dX8_soonest_39 : decode cX8_soonest 39 = .ok (.iconst 5, 1) := by decide +kernel
theorem dX8_soonest_40 : decode cX8_soonest 40 = .ok (.iaload, 1) := by decide +kernel
theorem dX8_soonest_41 : decode cX8_soonest 41 = .ok (.if_icmp .ge 36, 3) := by decide +kernel
theorem dX8_soonest_44 : decode cX8_soonest 44 = .ok (.iload_n 2, 1) := by decide +kernel
theorem dX8_soonest_45 : decode cX8_soonest 45 = .ok (.aload_n 0, 1) := by decide +kernel
theorem dX8_soonest_46 : decode cX8_soonest 46 = .ok (.getfield 117, 3) := by decide +kernel
theorem dX8_soonest_49 : decode cX8_soonest 49 = .ok (.iload 4, 2) := by decide +kernel
theorem dX8_soonest_51 : decode cX8_soonest 51 = .ok (.iaload, 1) := by decide +kernel
theorem dX8_soonest_52 : decode cX8_soonest 52 = .ok (.invokestatic 187, 3) := by decide +kernel
theorem dX8_soonest_55 : decode cX8_soonest 55 = .ok (.istore_n 2, 1) := by decide +kernel
theorem dX8_soonest_56 : decode cX8_soonest 56 = .ok (.iload_n 3, 1) := by decide +kernel
theorem dX8_soonest_57 : decode cX8_soonest 57 = .ok (.aload_n 0, 1) := by decide +kernel
theorem dX8_soonest_58 : decode cX8_soonest 58 = .ok (.getfield 117, 3) := by decide +kernel
theorem dX8_soonest_61 : decode cX8_soonest 61 = .ok (.iload 4, 2) := by decide +kernel
theorem dX8_soonest_63 : decode cX8_soonest 63 = .ok (.iaload, 1) := by decide +kernel
theorem dX8_soonest_64 : decode cX8_soonest 64 = .ok (.invokestatic 416, 3) := by decide +kernel
theorem dX8_soonest_67 : decode cX8_soonest 67 = .ok (.invokestatic 378, 3) := by decide +kernel
theorem dX8_soonest_70 : decode cX8_soonest 70 = .ok (.istore_n 3, 1) := by decide +kernel
theorem dX8_soonest_71 : decode cX8_soonest 71 = .ok (.iinc 4 1, 3) := by decide +kernel
theorem dX8_soonest_74 : decode cX8_soonest 74 = .ok (.goto (-41), 3) := by decide +kernel
theorem dX8_soonest_77 : decode cX8_soonest 77 = .ok (.iload_n 1, 1) := by decide +kernel
theorem dX8_soonest_78 : decode cX8_soonest 78 = .ok (.ifCond .ne 10, 3) := by decide +kernel
theorem dX8_soonest_81 : decode cX8_soonest 81 = .ok (.iload_n 2, 1) := by decide +kernel
theorem dX8_soonest_82 : decode cX8_soonest 82 = .ok (.invokestatic 416, 3) := by decide +kernel
theorem dX8_soonest_85 : decode cX8_soonest 85 = .ok (.goto 4, 3) := by decide +kernel
theorem dX8_soonest_88 : decode cX8_soonest 88 = .ok (.iload_n 3, 1) := by decide +kernel
theorem dX8_soonest_89 : decode cX8_soonest 89 = .ok (.ireturn, 1) := by decide +kernel
theorem dX8_see_0 : decode cX8_see 0 = .ok (.aload_n 0, 1) := by decide +kernel
theorem dX8_see_1 : decode cX8_see 1 = .ok (.iconst 0, 1) := by decide +kernel
theorem dX8_see_2 : decode cX8_see 2 = .ok (.putfield 150, 3) := by decide +kernel
theorem dX8_see_5 : decode cX8_see 5 = .ok (.aload_n 0, 1) := by decide +kernel
theorem dX8_see_6 : decode cX8_see 6 = .ok (.iload_n 1, 1) := by decide +kernel
theorem dX8_see_7 : decode cX8_see 7 = .ok (.invokevirtual 424, 3) := by decide +kernel
theorem dX8_see_10 : decode cX8_see 10 = .ok (.ifCond .eq 11, 3) := by decide +kernel
theorem dX8_see_13 : decode cX8_see 13 = .ok (.aload_n 0, 1) := by decide +kernel
theorem dX8_see_14 : decode cX8_see 14 = .ok (.iload_n 2, 1) := by decide +kernel
theorem dX8_see_15 : decode cX8_see 15 = .ok (.invokevirtual 419, 3) := by decide +kernel
theorem dX8_see_18 : decode cX8_see 18 = .ok (.ifCond .ne 9, 3) := by decide +kernel
theorem dX8_see_21 : decode cX8_see 21 = .ok (.aload_n 0, 1) := by decide +kernel
theorem dX8_see_22 : decode cX8_see 22 = .ok (.iconst 1, 1) := by decide +kernel
theorem dX8_see_23 : decode cX8_see 23 = .ok (.invokevirtual 298, 3) := by decide +kernel
theorem dX8_see_26 : decode cX8_see 26 = .ok (.ireturn, 1) := by decide +kernel
theorem dX8_see_27 : decode cX8_see 27 = .ok (.aload_n 0, 1) := by decide +kernel
theorem dX8_see_28 : decode cX8_see 28 = .ok (.getfield 326, 3) := by decide +kernel
theorem dX8_see_31 : decode cX8_see 31 = .ok (.bipush 8, 2) := by decide +kernel
theorem dX8_see_33 : decode cX8_see 33 = .ok (.if_icmp .ne 9, 3) := by decide +kernel
theorem dX8_see_36 : decode cX8_see 36 = .ok (.aload_n 0, 1) := by decide +kernel
theorem dX8_see_37 : decode cX8_see 37 = .ok (.iconst 2, 1) := by decide +kernel
theorem dX8_see_38 : decode cX8_see 38 = .ok (.invokevirtual 435, 3) := by decide +kernel
theorem dX8_see_41 : decode cX8_see 41 = .ok (.ireturn, 1) := by decide +kernel
theorem dX8_see_42 : decode cX8_see 42 = .ok (.aload_n 0, 1) := by decide +kernel
theorem dX8_see_43 : decode cX8_see 43 = .ok (.getfield 123, 3) := by decide +kernel
theorem dX8_see_46 : decode cX8_see 46 = .ok (.aload_n 0, 1) := by decide +kernel
theorem dX8_see_47 : decode cX8_see 47 = .ok (.getfield 326, 3) := by decide +kernel
theorem dX8_see_50 : decode cX8_see 50 = .ok (.iload_n 1, 1) := by decide +kernel
theorem dX8_see_51 : decode cX8_see 51 = .ok (.iastore, 1) := by decide +kernel
theorem dX8_see_52 : decode cX8_see 52 = .ok (.aload_n 0, 1) := by decide +kernel
theorem dX8_see_53 : decode cX8_see 53 = .ok (.getfield 126, 3) := by decide +kernel
theorem dX8_see_56 : decode cX8_see 56 = .ok (.aload_n 0, 1) := by decide +kernel
theorem dX8_see_57 : decode cX8_see 57 = .ok (.getfield 326, 3) := by decide +kernel
theorem dX8_see_60 : decode cX8_see 60 = .ok (.iload_n 2, 1) := by decide +kernel
theorem dX8_see_61 : decode cX8_see 61 = .ok (.iastore, 1) := by decide +kernel
theorem dX8_see_62 : decode cX8_see 62 = .ok (.aload_n 0, 1) := by decide +kernel
theorem dX8_see_63 : decode cX8_see 63 = .ok (.getfield 129, 3) := by decide +kernel
theorem dX8_see_66 : decode cX8_see 66 = .ok (.aload_n 0, 1) := by decide +kernel
theorem dX8_see_67 : decode cX8_see 67 = .ok (.getfield 326, 3) := by decide +kernel
theorem dX8_see_70 : decode cX8_see 70 = .ok (.iload_n 3, 1) := by decide +kernel
theorem dX8_see_71 : decode cX8_see 71 = .ok (.ifCond .eq 7, 3) := by decide +kernel
theorem dX8_see_74 : decode cX8_see 74 = .ok (.iconst 1, 1) := by decide +kernel
theorem dX8_see_75 : decode cX8_see 75 = .ok (.goto 4, 3) := by decide +kernel
theorem dX8_see_78 : decode cX8_see 78 = .ok (.iconst 0, 1) := by decide +kernel
theorem dX8_see_79 : decode cX8_see 79 = .ok (.iastore, 1) := by decide +kernel
theorem dX8_see_80 : decode cX8_see 80 = .ok (.aload_n 0, 1) := by decide +kernel
theorem dX8_see_81 : decode cX8_see 81 = .ok (.dup, 1) := by decide +kernel
theorem dX8_see_82 : decode cX8_see 82 = .ok (.getfield 326, 3) := by decide +kernel
theorem dX8_see_85 : decode cX8_see 85 = .ok (.iconst 1, 1) := by decide +kernel
theorem dX8_see_86 : decode cX8_see 86 = .ok (.iadd, 1) := by decide +kernel
theorem dX8_see_87 : decode cX8_see 87 = .ok (.putfield 326, 3) := by decide +kernel
theorem dX8_see_90 : decode cX8_see 90 = .ok (.aload_n 0, 1) := by decide +kernel
theorem dX8_see_91 : decode cX8_see 91 = .ok (.getfield 326, 3) := by decide +kernel
theorem dX8_see_94 : decode cX8_see 94 = .ok (.ireturn, 1) := by decide +kernel
theorem dX8_forget_0 : decode cX8_forget 0 = .ok (.aload_n 0, 1) := by decide +kernel
theorem dX8_forget_1 : decode cX8_forget 1 = .ok (.iconst 0, 1) := by decide +kernel
theorem dX8_forget_2 : decode cX8_forget 2 = .ok (.putfield 150, 3) := by decide +kernel
theorem dX8_forget_5 : decode cX8_forget 5 = .ok (.aload_n 0, 1) := by decide +kernel
theorem dX8_forget_6 : decode cX8_forget 6 = .ok (.getfield 326, 3) := by decide +kernel
theorem dX8_forget_9 : decode cX8_forget 9 = .ok (.ifCond .ne 5, 3) := by decide +kernel
theorem dX8_forget_12 : decode cX8_forget 12 = .ok (.iconst (-1), 1) := by decide +kernel
theorem dX8_forget_13 : decode cX8_forget 13 = .ok (.ireturn, 1) := by decide +kernel
theorem dX8_forget_14 : decode cX8_forget 14 = .ok (.aload_n 0, 1) := by decide +kernel
theorem dX8_forget_15 : decode cX8_forget 15 = .ok (.dup, 1) := by decide +kernel
theorem dX8_forget_16 : decode cX8_forget 16 = .ok (.getfield 326, 3) := by decide +kernel
theorem dX8_forget_19 : decode cX8_forget 19 = .ok (.iconst 1, 1) := by decide +kernel
theorem dX8_forget_20 : decode cX8_forget 20 = .ok (.isub, 1) := by decide +kernel
theorem dX8_forget_21 : decode cX8_forget 21 = .ok (.putfield 326, 3) := by decide +kernel
theorem dX8_forget_24 : decode cX8_forget 24 = .ok (.aload_n 0, 1) := by decide +kernel
theorem dX8_forget_25 : decode cX8_forget 25 = .ok (.getfield 326, 3) := by decide +kernel
theorem dX8_forget_28 : decode cX8_forget 28 = .ok (.ireturn, 1) := by decide +kernel
theorem dX8_isAsSeen_0 : decode cX8_isAsSeen 0 = .ok (.iconst 0, 1) := by decide +kernel
theorem dX8_isAsSeen_1 : decode cX8_isAsSeen 1 = .ok (.istore_n 1, 1) := by decide +kernel
theorem dX8_isAsSeen_2 : decode cX8_isAsSeen 2 = .ok (.iload_n 1, 1) := by decide +kernel
theorem dX8_isAsSeen_3 : decode cX8_isAsSeen 3 = .ok (.aload_n 0, 1) := by decide +kernel
theorem dX8_isAsSeen_4 : decode cX8_isAsSeen 4 = .ok (.getfield 326, 3) := by decide +kernel
theorem dX8_isAsSeen_7 : decode cX8_isAsSeen 7 = .ok (.if_icmp .ge 44, 3) := by decide +kernel
theorem dX8_isAsSeen_10 : decode cX8_isAsSeen 10 = .ok (.aload_n 0, 1) := by decide +kernel
theorem dX8_isAsSeen_11 : decode cX8_isAsSeen 11 = .ok (.aload_n 0, 1) := by decide +kernel
theorem dX8_isAsSeen_12 : decode cX8_isAsSeen 12 = .ok (.getfield 123, 3) := by decide +kernel
theorem dX8_isAsSeen_15 : decode cX8_isAsSeen 15 = .ok (.iload_n 1, 1) := by decide +kernel
theorem dX8_isAsSeen_16 : decode cX8_isAsSeen 16 = .ok (.iaload, 1) := by decide +kernel
theorem dX8_isAsSeen_17 : decode cX8_isAsSeen 17 = .ok (.aload_n 0, 1) := by decide +kernel
theorem dX8_isAsSeen_18 : decode cX8_isAsSeen 18 = .ok (.getfield 126, 3) := by decide +kernel
theorem dX8_isAsSeen_21 : decode cX8_isAsSeen 21 = .ok (.iload_n 1, 1) := by decide +kernel
theorem dX8_isAsSeen_22 : decode cX8_isAsSeen 22 = .ok (.iaload, 1) := by decide +kernel
theorem dX8_isAsSeen_23 : decode cX8_isAsSeen 23 = .ok (.invokevirtual 381, 3) := by decide +kernel
theorem dX8_isAsSeen_26 : decode cX8_isAsSeen 26 = .ok (.ifCond .eq 7, 3) := by decide +kernel
theorem dX8_isAsSeen_29 : decode cX8_isAsSeen 29 = .ok (.iconst 1, 1) := by decide +kernel
theorem dX8_isAsSeen_30 : decode cX8_isAsSeen 30 = .ok (.goto 4, 3) := by decide +kernel
theorem dX8_isAsSeen_33 : decode cX8_isAsSeen 33 = .ok (.iconst 0, 1) := by decide +kernel
theorem dX8_isAsSeen_34 : decode cX8_isAsSeen 34 = .ok (.aload_n 0, 1) := by decide +kernel
theorem dX8_isAsSeen_35 : decode cX8_isAsSeen 35 = .ok (.getfield 129, 3) := by decide +kernel
theorem dX8_isAsSeen_38 : decode cX8_isAsSeen 38 = .ok (.iload_n 1, 1) := by decide +kernel
theorem dX8_isAsSeen_39 : decode cX8_isAsSeen 39 = .ok (.iaload, 1) := by decide +kernel
theorem dX8_isAsSeen_40 : decode cX8_isAsSeen 40 = .ok (.if_icmp .eq 5, 3) := by decide +kernel
theorem dX8_isAsSeen_43 : decode cX8_isAsSeen 43 = .ok (.iconst 0, 1) := by decide +kernel
theorem dX8_isAsSeen_44 : decode cX8_isAsSeen 44 = .ok (.ireturn, 1) := by decide +kernel
theorem dX8_isAsSeen_45 : decode cX8_isAsSeen 45 = .ok (.iinc 1 1, 3) := by decide +kernel
theorem dX8_isAsSeen_48 : decode cX8_isAsSeen 48 = .ok (.goto (-46), 3) := by decide +kernel
theorem dX8_isAsSeen_51 : decode cX8_isAsSeen 51 = .ok (.iconst 1, 1) := by decide +kernel
theorem dX8_isAsSeen_52 : decode cX8_isAsSeen 52 = .ok (.ireturn, 1) := by decide +kernel
theorem dX8_sent_0 : decode cX8_sent 0 = .ok (.aload_n 0, 1) := by decide +kernel
theorem dX8_sent_1 : decode cX8_sent 1 = .ok (.iconst 0, 1) := by decide +kernel
theorem dX8_sent_2 : decode cX8_sent 2 = .ok (.putfield 150, 3) := by decide +kernel
theorem dX8_sent_5 : decode cX8_sent 5 = .ok (.aload_n 0, 1) := by decide +kernel
theorem dX8_sent_6 : decode cX8_sent 6 = .ok (.iload_n 1, 1) := by decide +kernel
theorem dX8_sent_7 : decode cX8_sent 7 = .ok (.invokevirtual 424, 3) := by decide +kernel
theorem dX8_sent_10 : decode cX8_sent 10 = .ok (.ifCond .eq 15, 3) := by decide +kernel
theorem dX8_sent_13 : decode cX8_sent 13 = .ok (.iload_n 2, 1) := by decide +kernel
theorem dX8_sent_14 : decode cX8_sent 14 = .ok (.i2l, 1) := by decide +kernel
theorem dX8_sent_15 : decode cX8_sent 15 = .ok (.lconst 0, 1) := by decide +kernel
theorem dX8_sent_16 : decode cX8_sent 16 = .ok (.ldc2_w 455, 3) := by decide +kernel
theorem dX8_sent_19 : decode cX8_sent 19 = .ok (.invokestatic 153, 3) := by decide +kernel
theorem dX8_sent_22 : decode cX8_sent 22 = .ok (.ifCond .ne 9, 3) := by decide +kernel
theorem dX8_sent_25 : decode cX8_sent 25 = .ok (.aload_n 0, 1) := by decide +kernel
theorem dX8_sent_26 : decode cX8_sent 26 = .ok (.iconst 1, 1) := by decide +kernel
theorem dX8_sent_27 : decode cX8_sent 27 = .ok (.invokevirtual 298, 3) := by decide +kernel
theorem dX8_sent_30 : decode cX8_sent 30 = .ok (.ireturn, 1) := by decide +kernel
theorem dX8_sent_31 : decode cX8_sent 31 = .ok (.aload_n 0, 1) := by decide +kernel
theorem dX8_sent_32 : decode cX8_sent 32 = .ok (.invokevirtual 410, 3) := by decide +kernel
theorem dX8_sent_35 : decode cX8_sent 35 = .ok (.pop, 1) := by decide +kernel
theorem dX8_sent_36 : decode cX8_sent 36 = .ok (.iload_n 2, 1) := by decide +kernel
theorem dX8_sent_37 : decode cX8_sent 37 = .ok (.iconst 2, 1) := by decide +kernel
theorem dX8_sent_38 : decode cX8_sent 38 = .ok (.if_icmp .ne 16, 3) := by decide +kernel
theorem dX8_sent_41 : decode cX8_sent 41 = .ok (.aload_n 0, 1) := by decide +kernel
theorem dX8_sent_42 : decode cX8_sent 42 = .ok (.invokevirtual 457, 3) := by decide +kernel
theorem dX8_sent_45 : decode cX8_sent 45 = .ok (.ifCond .eq 7, 3) := by decide +kernel
theorem dX8_sent_48 : decode cX8_sent 48 = .ok (.iconst 1, 1) := by decide +kernel
theorem dX8_sent_49 : decode cX8_sent 49 = .ok (.goto 4, 3) := by decide +kernel
theorem dX8_sent_52 : decode cX8_sent 52 = .ok (.iconst 0, 1) := by decide +kernel
theorem dX8_sent_53 : decode cX8_sent 53 = .ok (.ireturn, 1) := by decide +kernel
theorem dX8_sent_54 : decode cX8_sent 54 = .ok (.aload_n 0, 1) := by decide +kernel
theorem dX8_sent_55 : decode cX8_sent 55 = .ok (.dup, 1) := by decide +kernel
theorem dX8_sent_56 : decode cX8_sent 56 = .ok (.getfield 314, 3) := by decide +kernel
theorem dX8_sent_59 : decode cX8_sent 59 = .ok (.iconst 1, 1) := by decide +kernel
theorem dX8_sent_60 : decode cX8_sent 60 = .ok (.iadd, 1) := by decide +kernel
theorem dX8_sent_61 : decode cX8_sent 61 = .ok (.putfield 314, 3) := by decide +kernel
theorem dX8_sent_64 : decode cX8_sent 64 = .ok (.iconst 0, 1) := by decide +kernel
theorem dX8_sent_65 : decode cX8_sent 65 = .ok (.istore_n 3, 1) := by decide +kernel
theorem dX8_sent_66 : decode cX8_sent 66 = .ok (.iconst (-1), 1) := by decide +kernel
theorem dX8_sent_67 : decode cX8_sent 67 = .ok (.istore 4, 2) := by decide +kernel
theorem dX8_sent_69 : decode cX8_sent 69 = .ok (.iconst 0, 1) := by decide +kernel
theorem dX8_sent_70 : decode cX8_sent 70 = .ok (.istore 5, 2) := by decide +kernel
theorem dX8_sent_72 : decode cX8_sent 72 = .ok (.iload 5, 2) := by decide +kernel
theorem dX8_sent_74 : decode cX8_sent 74 = .ok (.aload_n 0, 1) := by decide +kernel
theorem dX8_sent_75 : decode cX8_sent 75 = .ok (.getfield 34, 3) := by decide +kernel
theorem dX8_sent_78 : decode cX8_sent 78 = .ok (.iconst 0, 1) := by decide +kernel
theorem dX8_sent_79 : decode cX8_sent 79 = .ok (.iaload, 1) := by decide +kernel
theorem dX8_sent_80 : decode cX8_sent 80 = .ok (.bipush 61, 2) := by decide +kernel
theorem dX8_sent_82 : decode cX8_sent 82 = .ok (.imul, 1) := by decide +kernel
theorem dX8_sent_83 : decode cX8_sent 83 = .ok (.if_icmp .ge 89, 3) := by decide +kernel
theorem dX8_sent_86 : decode cX8_sent 86 = .ok (.aload_n 0, 1) := by decide +kernel
theorem dX8_sent_87 : decode cX8_sent 87 = .ok (.getfield 73, 3) := by decide +kernel
theorem dX8_sent_90 : decode cX8_sent 90 = .ok (.aload_n 0, 1) := by decide +kernel
theorem dX8_sent_91 : decode cX8_sent 91 = .ok (.getfield 314, 3) := by decide +kernel
theorem dX8_sent_94 : decode cX8_sent 94 = .ok (.iconst 1, 1) := by decide +kernel
theorem dX8_sent_95 : decode cX8_sent 95 = .ok (.isub, 1) := by decide +kernel
theorem dX8_sent_96 : decode cX8_sent 96 = .ok (.iload_n 1, 1) := by decide +kernel
theorem dX8_sent_97 : decode cX8_sent 97 = .ok (.iload 5, 2) := by decide +kernel
theorem dX8_sent_99 : decode cX8_sent 99 = .ok (.aload_n 0, 1) := by decide +kernel
theorem dX8_sent_100 : decode cX8_sent 100 = .ok (.getfield 34, 3) := by decide +kernel
theorem dX8_sent_103 : decode cX8_sent 103 = .ok (.iconst 0, 1) := by decide +kernel
theorem dX8_sent_104 : decode cX8_sent 104 = .ok (.iaload, 1) := by decide +kernel
theorem dX8_sent_105 : decode cX8_sent 105 = .ok (.irem, 1) := by decide +kernel
theorem dX8_sent_106 : decode cX8_sent 106 = .ok (.iload 5, 2) := by decide +kernel
theorem dX8_sent_108 : decode cX8_sent 108 = .ok (.aload_n 0, 1) := by decide +kernel
theorem dX8_sent_109 : decode cX8_sent 109 = .ok (.getfield 34, 3) := by decide +kernel
theorem dX8_sent_112 : decode cX8_sent 112 = .ok (.iconst 0, 1) := by decide +kernel
theorem dX8_sent_113 : decode cX8_sent 113 = .ok (.iaload, 1) := by decide +kernel
theorem dX8_sent_114 : decode cX8_sent 114 = .ok (.idiv, 1) := by decide +kernel
theorem dX8_sent_115 : decode cX8_sent 115 = .ok (.invokestatic 443, 3) := by decide +kernel
theorem dX8_sent_118 : decode cX8_sent 118 = .ok (.aload_n 0, 1) := by decide +kernel
theorem dX8_sent_119 : decode cX8_sent 119 = .ok (.invokevirtual 457, 3) := by decide +kernel
theorem dX8_sent_122 : decode cX8_sent 122 = .ok (.ifCond .ne 6, 3) := by decide +kernel
theorem dX8_sent_125 : decode cX8_sent 125 = .ok (.goto 41, 3) := by decide +kernel
theorem dX8_sent_128 : decode cX8_sent 128 = .ok (.iinc 3 1, 3) := by decide +kernel
theorem dX8_sent_131 : decode cX8_sent 131 = .ok (.iload 4, 2) := by decide +kernel
theorem dX8_sent_133 : decode cX8_sent 133 = .ok (.iconst (-1), 1) := by decide +kernel
theorem dX8_sent_134 : decode cX8_sent 134 = .ok (.if_icmp .ne 28, 3) := by decide +kernel
theorem dX8_sent_137 : decode cX8_sent 137 = .ok (.bipush 100, 2) := by decide +kernel
theorem dX8_sent_139 : decode cX8_sent 139 = .ok (.iload 5, 2) := by decide +kernel
theorem dX8_sent_141 : decode cX8_sent 141 = .ok (.aload_n 0, 1) := by decide +kernel
theorem dX8_sent_142 : decode cX8_sent 142 = .ok (.getfield 34, 3) := by decide +kernel
theorem dX8_sent_145 : decode cX8_sent 145 = .ok (.iconst 0, 1) := by decide +kernel
theorem dX8_sent_146 : decode cX8_sent 146 = .ok (.iaload, 1) := by decide +kernel
theorem dX8_sent_147 : decode cX8_sent 147 = .ok (.idiv, 1) := by decide +kernel
theorem dX8_sent_148 : decode cX8_sent 148 = .ok (.imul, 1) := by decide +kernel
theorem dX8_sent_149 : decode cX8_sent 149 = .ok (.iload 5, 2) := by decide +kernel
theorem dX8_sent_151 : decode cX8_sent 151 = .ok (.aload_n 0, 1) := by decide +kernel
theorem dX8_sent_152 : decode cX8_sent 152 = .ok (.getfield 34, 3) := by decide +kernel
theorem dX8_sent_155 : decode cX8_sent 155 = .ok (.iconst 0, 1) := by decide +kernel
theorem dX8_sent_156 : decode cX8_sent 156 = .ok (.iaload, 1) := by decide +kernel
theorem dX8_sent_157 : decode cX8_sent 157 = .ok (.irem, 1) := by decide +kernel
theorem dX8_sent_158 : decode cX8_sent 158 = .ok (.iadd, 1) := by decide +kernel
theorem dX8_sent_159 : decode cX8_sent 159 = .ok (.goto 5, 3) := by decide +kernel
theorem dX8_sent_162 : decode cX8_sent 162 = .ok (.iload 4, 2) := by decide +kernel
theorem dX8_sent_164 : decode cX8_sent 164 = .ok (.istore 4, 2) := by decide +kernel
theorem dX8_sent_166 : decode cX8_sent 166 = .ok (.iinc 5 1, 3) := by decide +kernel
theorem dX8_sent_169 : decode cX8_sent 169 = .ok (.goto (-97), 3) := by decide +kernel
theorem dX8_sent_172 : decode cX8_sent 172 = .ok (.aload_n 0, 1) := by decide +kernel
theorem dX8_sent_173 : decode cX8_sent 173 = .ok (.dup, 1) := by decide +kernel
theorem dX8_sent_174 : decode cX8_sent 174 = .ok (.getfield 314, 3) := by decide +kernel
theorem dX8_sent_177 : decode cX8_sent 177 = .ok (.iconst 1, 1) := by decide +kernel
theorem dX8_sent_178 : decode cX8_sent 178 = .ok (.isub, 1) := by decide +kernel
theorem dX8_sent_179 : decode cX8_sent 179 = .ok (.putfield 314, 3) := by decide +kernel
theorem dX8_sent_182 : decode cX8_sent 182 = .ok (.iload_n 2, 1) := by decide +kernel
theorem dX8_sent_183 : decode cX8_sent 183 = .ok (.ifCond .ne 7, 3) := by decide +kernel
theorem dX8_sent_186 : decode cX8_sent 186 = .ok (.iload_n 3, 1) := by decide +kernel
theorem dX8_sent_187 : decode cX8_sent 187 = .ok (.goto 5, 3) := by decide +kernel
theorem dX8_sent_190 : decode cX8_sent 190 = .ok (.iload 4, 2) := by decide +kernel
theorem dX8_sent_192 : decode cX8_sent 192 = .ok (.ireturn, 1) := by decide +kernel
theorem dX8_isGuiltyBy_0 : decode cX8_isGuiltyBy 0 = .ok (.aload_n 0, 1) := by decide +kernel
theorem dX8_isGuiltyBy_1 : decode cX8_isGuiltyBy 1 = .ok (.getfield 343, 3) := by decide +kernel
theorem dX8_isGuiltyBy_4 : decode cX8_isGuiltyBy 4 = .ok (.istore 4, 2) := by decide +kernel
theorem dX8_isGuiltyBy_6 : decode cX8_isGuiltyBy 6 = .ok (.aload_n 0, 1) := by decide +kernel
theorem dX8_isGuiltyBy_7 : decode cX8_isGuiltyBy 7 = .ok (.dup, 1) := by decide +kernel
theorem dX8_isGuiltyBy_8 : decode cX8_isGuiltyBy 8 = .ok (.getfield 343, 3) := by decide +kernel
theorem dX8_isGuiltyBy_11 : decode cX8_isGuiltyBy 11 = .ok (.iconst 1, 1) := by decide +kernel
theorem dX8_isGuiltyBy_12 : decode cX8_isGuiltyBy 12 = .ok (.iload_n 2, 1) := by decide +kernel
theorem dX8_isGuiltyBy_13 : decode cX8_isGuiltyBy 13 = .ok (.ishl, 1) := by decide +kernel
theorem dX8_isGuiltyBy_14 : decode cX8_isGuiltyBy 14 = .ok (.ior, 1) := by decide +kernel
theorem dX8_isGuiltyBy_15 : decode cX8_isGuiltyBy 15 = .ok (.putfield 343, 3) := by decide +kernel
theorem dX8_isGuiltyBy_18 : decode cX8_isGuiltyBy 18 = .ok (.aload_n 0, 1) := by decide +kernel
theorem dX8_isGuiltyBy_19 : decode cX8_isGuiltyBy 19 = .ok (.iload_n 1, 1) := by decide +kernel
theorem dX8_isGuiltyBy_20 : decode cX8_isGuiltyBy 20 = .ok (.putfield 103, 3) := by decide +kernel
theorem dX8_isGuiltyBy_23 : decode cX8_isGuiltyBy 23 = .ok (.aload_n 0, 1) := by decide +kernel
theorem dX8_isGuiltyBy_24 : decode cX8_isGuiltyBy 24 = .ok (.iconst 1, 1) := by decide +kernel
theorem dX8_isGuiltyBy_25 : decode cX8_isGuiltyBy 25 = .ok (.iload_n 3, 1) := by decide +kernel
theorem dX8_isGuiltyBy_26 : decode cX8_isGuiltyBy 26 = .ok (.ishl, 1) := by decide +kernel
theorem dX8_isGuiltyBy_27 : decode cX8_isGuiltyBy 27 = .ok (.putfield 340, 3) := by decide +kernel
theorem dX8_isGuiltyBy_30 : decode cX8_isGuiltyBy 30 = .ok (.aload_n 0, 1) := by decide +kernel
theorem dX8_isGuiltyBy_31 : decode cX8_isGuiltyBy 31 = .ok (.iload_n 1, 1) := by decide +kernel
theorem dX8_isGuiltyBy_32 : decode cX8_isGuiltyBy 32 = .ok (.invokevirtual 401, 3) := by decide +kernel
theorem dX8_isGuiltyBy_35 : decode cX8_isGuiltyBy 35 = .ok (.aload_n 0, 1) := by decide +kernel
theorem dX8_isGuiltyBy_36 : decode cX8_isGuiltyBy 36 = .ok (.iload 4, 2) := by decide +kernel
theorem dX8_isGuiltyBy_38 : decode cX8_isGuiltyBy 38 = .ok (.putfield 343, 3) := by decide +kernel
theorem dX8_isGuiltyBy_41 : decode cX8_isGuiltyBy 41 = .ok (.aload_n 0, 1) := by decide +kernel
theorem dX8_isGuiltyBy_42 : decode cX8_isGuiltyBy 42 = .ok (.getfield 117, 3) := by decide +kernel
theorem dX8_isGuiltyBy_45 : decode cX8_isGuiltyBy 45 = .ok (.iload_n 1, 1) := by decide +kernel
theorem dX8_isGuiltyBy_46 : decode cX8_isGuiltyBy 46 = .ok (.iaload, 1) := by decide +kernel
theorem dX8_isGuiltyBy_47 : decode cX8_isGuiltyBy 47 = .ok (.ldc 186, 2) := by decide +kernel
theorem dX8_isGuiltyBy_49 : decode cX8_isGuiltyBy 49 = .ok (.if_icmp .ge 7, 3) := by decide +kernel
theorem dX8_isGuiltyBy_52 : decode cX8_isGuiltyBy 52 = .ok (.iconst 1, 1) := by decide +kernel
theorem dX8_isGuiltyBy_53 : decode cX8_isGuiltyBy 53 = .ok (.goto 4, 3) := by decide +kernel
theorem dX8_isGuiltyBy_56 : decode cX8_isGuiltyBy 56 = .ok (.iconst 0, 1) := by decide +kernel
theorem dX8_isGuiltyBy_57 : decode cX8_isGuiltyBy 57 = .ok (.ireturn, 1) := by decide +kernel
theorem dX8_game_0 : decode cX8_game 0 = .ok (.aload_n 0, 1) := by decide +kernel
theorem dX8_game_1 : decode cX8_game 1 = .ok (.iconst 0, 1) := by decide +kernel
theorem dX8_game_2 : decode cX8_game 2 = .ok (.putfield 150, 3) := by decide +kernel
theorem dX8_game_5 : decode cX8_game 5 = .ok (.aload_n 0, 1) := by decide +kernel
theorem dX8_game_6 : decode cX8_game 6 = .ok (.iload_n 1, 1) := by decide +kernel
theorem dX8_game_7 : decode cX8_game 7 = .ok (.invokevirtual 424, 3) := by decide +kernel
theorem dX8_game_10 : decode cX8_game 10 = .ok (.ifCond .eq 12, 3) := by decide +kernel
theorem dX8_game_13 : decode cX8_game 13 = .ok (.iload_n 2, 1) := by decide +kernel
theorem dX8_game_14 : decode cX8_game 14 = .ok (.ifCond .lt 8, 3) := by decide +kernel
theorem dX8_game_17 : decode cX8_game 17 = .ok (.iload_n 2, 1) := by decide +kernel
theorem dX8_game_18 : decode cX8_game 18 = .ok (.iconst 1, 1) := by decide +kernel
theorem dX8_game_19 : decode cX8_game 19 = .ok (.if_icmp .le 9, 3) := by decide +kernel
theorem dX8_game_22 : decode cX8_game 22 = .ok (.aload_n 0, 1) := by decide +kernel
theorem dX8_game_23 : decode cX8_game 23 = .ok (.iconst 1, 1) := by decide +kernel
theorem dX8_game_24 : decode cX8_game 24 = .ok (.invokevirtual 298, 3) := by decide +kernel
theorem dX8_game_27 : decode cX8_game 27 = .ok (.ireturn, 1) := by decide +kernel
theorem dX8_game_28 : decode cX8_game 28 = .ok (.aload_n 0, 1) := by decide +kernel
theorem dX8_game_29 : decode cX8_game 29 = .ok (.invokevirtual 410, 3) := by decide +kernel
theorem dX8_game_32 : decode cX8_game 32 = .ok (.pop, 1) := by decide +kernel
theorem dX8_game_33 : decode cX8_game 33 = .ok (.iconst 0, 1) := by decide +kernel
theorem dX8_game_34 : decode cX8_game 34 = .ok (.istore_n 3, 1) := by decide +kernel
theorem dX8_game_35 : decode cX8_game 35 = .ok (.iconst (-1), 1) := by decide +kernel
theorem dX8_game_36 : decode cX8_game 36 = .ok (.istore 4, 2) := by decide +kernel
theorem dX8_game_38 : decode cX8_game 38 = .ok (.iconst 0, 1) := by decide +kernel
theorem dX8_game_39 : decode cX8_game 39 = .ok (.istore 5, 2) := by decide +kernel
theorem dX8_game_41 : decode cX8_game 41 = .ok (.iload 5, 2) := by decide +kernel
theorem dX8_game_43 : decode cX8_game 43 = .ok (.aload_n 0, 1) := by decide +kernel
theorem dX8_game_44 : decode cX8_game 44 = .ok (.getfield 34, 3) := by decide +kernel
theorem dX8_game_47 : decode cX8_game 47 = .ok (.iconst 4, 1) := by decide +kernel
theorem dX8_game_48 : decode cX8_game 48 = .ok (.iaload, 1) := by decide +kernel
theorem dX8_game_49 : decode cX8_game 49 = .ok (.if_icmp .ge 136, 3) := by decide +kernel
theorem dX8_game_52 : decode cX8_game 52 = .ok (.iconst 0, 1) := by decide +kernel
theorem dX8_game_53 : decode cX8_game 53 = .ok (.istore 6, 2) := by decide +kernel
theorem dX8_game_55 : decode cX8_game 55 = .ok (.iload 6, 2) := by decide +kernel
theorem dX8_game_57 : decode cX8_game 57 = .ok (.aload_n 0, 1) := by decide +kernel
theorem dX8_game_58 : decode cX8_game 58 = .ok (.getfield 34, 3) := by decide +kernel
theorem dX8_game_61 : decode cX8_game 61 = .ok (.iconst 4, 1) := by decide +kernel
theorem dX8_game_62 : decode cX8_game 62 = .ok (.iaload, 1) := by decide +kernel
theorem dX8_game_63 : decode cX8_game 63 = .ok (.if_icmp .ge 116, 3) := by decide +kernel
theorem dX8_game_66 : decode cX8_game 66 = .ok (.aload_n 0, 1) := by decide +kernel
theorem dX8_game_67 : decode cX8_game 67 = .ok (.iload_n 1, 1) := by decide +kernel
theorem dX8_game_68 : decode cX8_game 68 = .ok (.iload 5, 2) := by decide +kernel
theorem dX8_game_70 : decode cX8_game 70 = .ok (.iload 6, 2) := by decide +kernel
theorem dX8_game_72 : decode cX8_game 72 = .ok (.invokevirtual 461, 3) := by decide +kernel
theorem dX8_game_75 : decode cX8_game 75 = .ok (.istore 7, 2) := by decide +kernel
theorem dX8_game_77 : decode cX8_game 77 = .ok (.iconst 1, 1) := by decide +kernel
theorem dX8_game_78 : decode cX8_game 78 = .ok (.istore 8, 2) := by decide +kernel
theorem dX8_game_80 : decode cX8_game 80 = .ok (.iconst 0, 1) := by decide +kernel
theorem dX8_game_81 : decode cX8_game 81 = .ok (.istore 9, 2) := by decide +kernel
theorem dX8_game_83 : decode cX8_game 83 = .ok (.iload 9, 2) := by decide +kernel
theorem dX8_game_85 : decode cX8_game 85 = .ok (.aload_n 0, 1) := by decide +kernel
theorem dX8_game_86 : decode cX8_game 86 = .ok (.getfield 34, 3) := by decide +kernel
theorem dX8_game_89 : decode cX8_game 89 = .ok (.iconst 4, 1) := by decide +kernel
theorem dX8_game_90 : decode cX8_game 90 = .ok (.iaload, 1) := by decide +kernel
theorem dX8_game_91 : decode cX8_game 91 = .ok (.if_icmp .ge 50, 3) := by decide +kernel
theorem dX8_game_94 : decode cX8_game 94 = .ok (.iload 8, 2) := by decide +kernel
theorem dX8_game_96 : decode cX8_game 96 = .ok (.ifCond .eq 45, 3) := by decide +kernel
theorem dX8_game_99 : decode cX8_game 99 = .ok (.iload 7, 2) := by decide +kernel
theorem dX8_game_101 : decode cX8_game 101 = .ok (.ifCond .eq 15, 3) := by decide +kernel
theorem dX8_game_104 : decode cX8_game 104 = .ok (.aload_n 0, 1) := by decide +kernel
theorem dX8_game_105 : decode cX8_game 105 = .ok (.iload_n 1, 1) := by decide +kernel
theorem dX8_game_106 : decode cX8_game 106 = .ok (.iload 5, 2) := by decide +kernel
theorem dX8_game_108 : decode cX8_game 108 = .ok (.iload 9, 2) := by decide +kernel
theorem dX8_game_110 : decode cX8_game 110 = .ok (.invokevirtual 461, 3) := by decide +kernel
theorem dX8_game_113 : decode cX8_game 113 = .ok (.goto 20, 3) := by decide +kernel
theorem dX8_game_116 : decode cX8_game 116 = .ok (.aload_n 0, 1) := by decide +kernel
theorem dX8_game_117 : decode cX8_game 117 = .ok (.iload_n 1, 1) := by decide +kernel
theorem dX8_game_118 : decode cX8_game 118 = .ok (.iload 9, 2) := by decide +kernel
theorem dX8_game_120 : decode cX8_game 120 = .ok (.iload 6, 2) := by decide +kernel
theorem dX8_game_122 : decode cX8_game 122 = .ok (.invokevirtual 461, 3) := by decide +kernel
theorem dX8_game_125 : decode cX8_game 125 = .ok (.ifCond .ne 7, 3) := by decide +kernel
theorem dX8_game_128 : decode cX8_game 128 = .ok (.iconst 1, 1) := by decide +kernel
theorem dX8_game_129 : decode cX8_game 129 = .ok (.goto 4, 3) := by decide +kernel
theorem dX8_game_132 : decode cX8_game 132 = .ok (.iconst 0, 1) := by decide +kernel
theorem dX8_game_133 : decode cX8_game 133 = .ok (.istore 8, 2) := by decide +kernel
theorem dX8_game_135 : decode cX8_game 135 = .ok (.iinc 9 1, 3) := by decide +kernel
theorem dX8_game_138 : decode cX8_game 138 = .ok (.goto (-55), 3) := by decide +kernel
theorem dX8_game_141 : decode cX8_game 141 = .ok (.iload 8, 2) := by decide +kernel
theorem dX8_game_143 : decode cX8_game 143 = .ok (.ifCond .ne 6, 3) := by decide +kernel
theorem dX8_game_146 : decode cX8_game 146 = .ok (.goto 27, 3) := by decide +kernel
theorem dX8_game_149 : decode cX8_game 149 = .ok (.iinc 3 1, 3) := by decide +kernel
theorem dX8_game_152 : decode cX8_game 152 = .ok (.iload 4, 2) := by decide +kernel
theorem dX8_game_154 : decode cX8_game 154 = .ok (.iconst (-1), 1) := by decide +kernel
theorem dX8_game_155 : decode cX8_game 155 = .ok (.if_icmp .ne 14, 3) := by decide +kernel
theorem dX8_game_158 : decode cX8_game 158 = .ok (.bipush 10, 2) := by decide +kernel
theorem dX8_game_160 : decode cX8_game 160 = .ok (.iload 5, 2) := by decide +kernel
theorem dX8_game_162 : decode cX8_game 162 = .ok (.imul, 1) := by decide +kernel
theorem dX8_game_163 : decode cX8_game 163 = .ok (.iload 6, 2) := by decide +kernel
theorem dX8_game_165 : decode cX8_game 165 = .ok (.iadd, 1) := by decide +kernel
theorem dX8_game_166 : decode cX8_game 166 = .ok (.goto 5, 3) := by decide +kernel
theorem dX8_game_169 : decode cX8_game 169 = .ok (.iload 4, 2) := by decide +kernel
theorem dX8_game_171 : decode cX8_game 171 = .ok (.istore 4, 2) := by decide +kernel
theorem dX8_game_173 : decode cX8_game 173 = .ok (.iinc 6 1, 3) := by decide +kernel
theorem dX8_game_176 : decode cX8_game 176 = .ok (.goto (-121), 3) := by decide +kernel
theorem dX8_game_179 : decode cX8_game 179 = .ok (.iinc 5 1, 3) := by decide +kernel
theorem dX8_game_182 : decode cX8_game 182 = .ok (.goto (-141), 3) := by decide +kernel
theorem dX8_game_185 : decode cX8_game 185 = .ok (.iload_n 2, 1) := by decide +kernel
theorem dX8_game_186 : decode cX8_game 186 = .ok (.ifCond .ne 7, 3) := by decide +kernel
theorem dX8_game_189 : decode cX8_game 189 = .ok (.iload_n 3, 1) := by decide +kernel
theorem dX8_game_190 : decode cX8_game 190 = .ok (.goto 5, 3) := by decide +kernel
theorem dX8_game_193 : decode cX8_game 193 = .ok (.iload 4, 2) := by decide +kernel
theorem dX8_game_195 : decode cX8_game 195 = .ok (.ireturn, 1) := by decide +kernel
theorem dX8_drawOf_0 : decode cX8_drawOf 0 = .ok (.aload_n 0, 1) := by decide +kernel
theorem dX8_drawOf_1 : decode cX8_drawOf 1 = .ok (.aload_n 0, 1) := by decide +kernel
theorem dX8_drawOf_2 : decode cX8_drawOf 2 = .ok (.getfield 464, 3) := by decide +kernel
theorem dX8_drawOf_5 : decode cX8_drawOf 5 = .ok (.ldc_w 467, 3) := by decide +kernel
theorem dX8_drawOf_8 : decode cX8_drawOf 8 = .ok (.imul, 1) := by decide +kernel
theorem dX8_drawOf_9 : decode cX8_drawOf 9 = .ok (.sipush 12345, 3) := by decide +kernel
theorem dX8_drawOf_12 : decode cX8_drawOf 12 = .ok (.iadd, 1) := by decide +kernel
theorem dX8_drawOf_13 : decode cX8_drawOf 13 = .ok (.putfield 464, 3) := by decide +kernel
theorem dX8_drawOf_16 : decode cX8_drawOf 16 = .ok (.aload_n 0, 1) := by decide +kernel
theorem dX8_drawOf_17 : decode cX8_drawOf 17 = .ok (.getfield 464, 3) := by decide +kernel
theorem dX8_drawOf_20 : decode cX8_drawOf 20 = .ok (.bipush 16, 2) := by decide +kernel
theorem dX8_drawOf_22 : decode cX8_drawOf 22 = .ok (.ishr, 1) := by decide +kernel
theorem dX8_drawOf_23 : decode cX8_drawOf 23 = .ok (.sipush 32767, 3) := by decide +kernel
theorem dX8_drawOf_26 : decode cX8_drawOf 26 = .ok (.iand, 1) := by decide +kernel
theorem dX8_drawOf_27 : decode cX8_drawOf 27 = .ok (.iload_n 1, 1) := by decide +kernel
theorem dX8_drawOf_28 : decode cX8_drawOf 28 = .ok (.irem, 1) := by decide +kernel
theorem dX8_drawOf_29 : decode cX8_drawOf 29 = .ok (.ireturn, 1) := by decide +kernel
def f_X8_mercy_73 (k33 : Mem → Int32 → Int32 → Int32 → Option (Int32 × Mem))  (I : Mem) (v1 : Int32) (v2 : Int32) (v3 : Int32) : Option (Int32 × Mem) :=
  bnd (upd4 I 8 0 0 42 v3) fun I1' =>
  (f_X8_judgeCase I1' v1).bind fun y1 =>
  gd (inb v1 6) <|
  if (y1 75 0 0 v1.toNatClampNeg) < (100000 : Int32) then (k33 y1 v1 v2 (v3 + (1 : Int32))) else (k33 y1 v1 v3 (v3 + (1 : Int32)))
theorem b_X8_mercy_73 (X : CX) (Q : State → Prop) {I : Mem} {P : PMem} {O : Nat → Int64} {D : Bool} {n : Nat} {k33 : Mem → Int32 → Int32 → Int32 → Option (Int32 × Mem)} {v1 : Int32} {v2 : Int32} {v3 : Int32} {r : (Int32 × Mem)}  (H33 : ∀ (I : Mem) (v1 : Int32) (v2 : Int32) (v3 : Int32), k33 I v1 v2 v3 = some r → Here X cX8_mercy RX8 4 (some .int) 10 n 33 [some (.inr (.inr (8, 0, 0))), some (.inl v1), some (.inl v2), some (.inl v3)] [] I P O D n Q) (h : f_X8_mercy_73 k33 I v1 v2 v3 = some r) (E : EndR X cX8_mercy RX8 4 (some .int) 10 n (some (.inl r.1)) r.2 P O D Q) : Here X cX8_mercy RX8 4 (some .int) 10 n 73 [some (.inr (.inr (8, 0, 0))), some (.inl v1), some (.inl v2), some (.inl v3)] [] I P O D n Q := by
  unfold f_X8_mercy_73 at h
  refine h_aload_n dX8_mercy_73 rfl ?_
  refine h_iload_n dX8_mercy_74 rfl ?_
  obtain ⟨I1', e1, h⟩ := bnd_some h
  refine p_X8_340  dX8_mercy_75 ?_
  refine h_nmI e1 ?_
  refine h_aload_n dX8_mercy_78 rfl ?_
  refine h_iload_n dX8_mercy_79 rfl ?_
  obtain ⟨y1, hh1, h⟩ := obd_some h
  refine h_cVv [.inl v1] (m_X8_judgeCase  hh1) cw_X8_401 dX8_mercy_80 rfl ok_8 (by decide) rfl (Or.inr rfl) rfl ?_
  refine h_aload_n dX8_mercy_83 rfl ?_
  refine g_X8_117  dX8_mercy_84 ?_
  refine h_iload_n dX8_mercy_87 rfl ?_
  obtain ⟨g1, h⟩ := gd_some h
  refine al_75  v1.toNatClampNeg rfl dX8_mercy_88 g1 ?_
  refine h_ldci (100000 : Int32) dX8_mercy_89 kc_X8_186 ?_
  refine h_icmp_lt (tgt := 98) dX8_mercy_91 (by decide) (fun q1 => ?_) (fun q1 => ?_)
  · rw [if_pos q1] at h
    refine h_iload_n dX8_mercy_98 rfl ?_
    refine h_istore_n dX8_mercy_99 (by decide) rfl ?_
    refine h_iinc (1 : Int32) dX8_mercy_100 rfl k_iinc_1 (by decide) rfl ?_
    refine h_goto (tgt := 33) dX8_mercy_103 (by decide) ?_
    exact (H33 _ _ _ _ h)
  · rw [if_neg q1] at h
    refine h_iload_n dX8_mercy_94 rfl ?_
    refine h_goto (tgt := 99) dX8_mercy_95 (by decide) ?_
    refine h_istore_n dX8_mercy_99 (by decide) rfl ?_
    refine h_iinc (1 : Int32) dX8_mercy_100 rfl k_iinc_1 (by decide) rfl ?_
    refine h_goto (tgt := 33) dX8_mercy_103 (by decide) ?_
    exact (H33 _ _ _ _ h)
def f_X8_mercy_33   : Nat → Mem → Int32 → Int32 → Int32 → Option (Int32 × Mem)
  | 0, _, _, _, _ => none
  | fu + 1, I, v1, v2, v3 =>
    if (jshl (1 : Int32) (I 50 0 0 4)) ≤ v3 then (some (v2, I)) else (if (v3 &&& (I 8 0 0 41)) = 0 then (if v2 = (-1 : Int32) then (f_X8_mercy_73 (f_X8_mercy_33 fu) I v1 v2 v3) else ((f_X8_bitsOf I v3).bind fun y1 =>
    (f_X8_bitsOf I v2).bind fun y2 =>
    if y1 < y2 then (f_X8_mercy_73 (f_X8_mercy_33 fu) I v1 v2 v3) else ((f_X8_mercy_33 fu) I v1 v2 (v3 + (1 : Int32))))) else ((f_X8_mercy_33 fu) I v1 v2 (v3 + (1 : Int32))))
theorem b_X8_mercy_33 (X : CX) (Q : State → Prop) {P : PMem} {O : Nat → Int64} {D : Bool} {n : Nat} {r : (Int32 × Mem)}  : ∀ (fu : Nat) {I : Mem} {v1 : Int32} {v2 : Int32} {v3 : Int32}, f_X8_mercy_33 fu I v1 v2 v3 = some r → EndR X cX8_mercy RX8 4 (some .int) 10 n (some (.inl r.1)) r.2 P O D Q → Here X cX8_mercy RX8 4 (some .int) 10 n 33 [some (.inr (.inr (8, 0, 0))), some (.inl v1), some (.inl v2), some (.inl v3)] [] I P O D n Q := by
  intro fu
  induction fu with
  | zero => intro I v1 v2 v3 h E; cases h
  | succ fu ih =>
  intro I v1 v2 v3 h E
  have H33 : ∀ (I : Mem) (v1 : Int32) (v2 : Int32) (v3 : Int32), f_X8_mercy_33 fu I v1 v2 v3 = some r → Here X cX8_mercy RX8 4 (some .int) 10 n 33 [some (.inr (.inr (8, 0, 0))), some (.inl v1), some (.inl v2), some (.inl v3)] [] I P O D n Q := fun _ _ _ _ b => ih b E
  simp only [f_X8_mercy_33] at h
  refine h_iload_n dX8_mercy_33 rfl ?_
  refine h_iconst (1 : Int32) dX8_mercy_34 k_iconst_1 ?_
  refine h_aload_n dX8_mercy_35 rfl ?_
  refine g_X8_34  dX8_mercy_36 ?_
  refine h_iconst (4 : Int32) dX8_mercy_39 k_iconst_4 ?_
  refine al_50  4 cl_4 dX8_mercy_40 rfl ?_
  refine h_shl dX8_mercy_41 ?_
  refine h_icmp_ge (tgt := 106) dX8_mercy_42 (by decide) (fun q1 => ?_) (fun q1 => ?_)
  · rw [if_pos q1] at h
    refine h_iload_n dX8_mercy_106 rfl ?_
    cases h
    exact h_iret dX8_mercy_107 rfl E
  · rw [if_neg q1] at h
    refine h_iload_n dX8_mercy_45 rfl ?_
    refine h_aload_n dX8_mercy_46 rfl ?_
    refine g_X8_343  dX8_mercy_47 ?_
    refine h_iand dX8_mercy_50 ?_
    refine h_if_ne (tgt := 100) dX8_mercy_51 (by decide) (fun q2 => ?_) (fun q2 => ?_)
    · rw [if_neg q2] at h
      refine h_iinc (1 : Int32) dX8_mercy_100 rfl k_iinc_1 (by decide) rfl ?_
      refine h_goto (tgt := 33) dX8_mercy_103 (by decide) ?_
      exact (H33 _ _ _ _ h)
    · rw [if_pos q2] at h
      refine h_iload_n dX8_mercy_54 rfl ?_
      refine h_iconst (-1 : Int32) dX8_mercy_55 k_iconst_m1 ?_
      refine h_icmp_eq (tgt := 73) dX8_mercy_56 (by decide) (fun q3 => ?_) (fun q3 => ?_)
      · rw [if_pos q3] at h
        exact (b_X8_mercy_73 X Q H33  h E)
      · rw [if_neg q3] at h
        refine h_iload_n dX8_mercy_59 rfl ?_
        obtain ⟨y1, hh1, h⟩ := obd_some h
        refine h_cSi [.inl v3] (m_X8_bitsOf  hh1) cs_X8_452 dX8_mercy_60 rfl (by decide) rfl (Or.inr rfl) rfl ?_
        refine h_iload_n dX8_mercy_63 rfl ?_
        obtain ⟨y2, hh2, h⟩ := obd_some h
        refine h_cSi [.inl v2] (m_X8_bitsOf  hh2) cs_X8_452 dX8_mercy_64 rfl (by decide) rfl (Or.inr rfl) rfl ?_
        refine h_icmp_lt (tgt := 73) dX8_mercy_67 (by decide) (fun q4 => ?_) (fun q4 => ?_)
        · rw [if_pos q4] at h
          exact (b_X8_mercy_73 X Q H33  h E)
        · rw [if_neg q4] at h
          refine h_goto (tgt := 100) dX8_mercy_70 (by decide) ?_
          refine h_iinc (1 : Int32) dX8_mercy_100 rfl k_iinc_1 (by decide) rfl ?_
          refine h_goto (tgt := 33) dX8_mercy_103 (by decide) ?_
          exact (H33 _ _ _ _ h)
def f_X8_mercy   (I : Mem) (v1 : Int32) : Option (Int32 × Mem) :=
  bnd (upd4 I 8 0 0 2 (0 : Int32)) fun I1' =>
  (f_X8_isCase I1' v1).bind fun y1 =>
  if y1 = 0 then ((f_X8_fail I1' (1 : Int32)).bind fun y3 =>
  some (y3.1, y3.2)) else ((f_X8_tellNow I1').bind fun y2 =>
  bnd (upd4 y2.2 8 0 0 43 v1) fun I2' =>
  f_X8_mercy_33 FU I2' v1 (-1 : Int32) (0 : Int32))
theorem b_X8_mercy (X : CX) (Q : State → Prop) {I : Mem} {P : PMem} {O : Nat → Int64} {D : Bool} {n : Nat} {v1 : Int32} {r : (Int32 × Mem)}  (h : f_X8_mercy I v1 = some r) (E : EndR X cX8_mercy RX8 4 (some .int) 10 n (some (.inl r.1)) r.2 P O D Q) : Here X cX8_mercy RX8 4 (some .int) 10 n 0 [some (.inr (.inr (8, 0, 0))), some (.inl v1), none, none] [] I P O D n Q := by
  unfold f_X8_mercy at h
  refine h_aload_n dX8_mercy_0 rfl ?_
  refine h_iconst (0 : Int32) dX8_mercy_1 k_iconst_0 ?_
  obtain ⟨I1', e1, h⟩ := bnd_some h
  refine p_X8_150  dX8_mercy_2 ?_
  refine h_nmI e1 ?_
  refine h_aload_n dX8_mercy_5 rfl ?_
  refine h_iload_n dX8_mercy_6 rfl ?_
  obtain ⟨y1, hh1, h⟩ := obd_some h
  refine h_cVi [.inl v1] (m_X8_isCase  hh1) cw_X8_424 dX8_mercy_7 rfl ok_8 (by decide) rfl (Or.inr rfl) rfl ?_
  refine h_if_ne (tgt := 19) dX8_mercy_10 (by decide) (fun q1 => ?_) (fun q1 => ?_)
  · rw [if_neg q1] at h
    refine h_aload_n dX8_mercy_19 rfl ?_
    obtain ⟨y2, hh2, h⟩ := obd_some h
    refine h_cVi [] (m_X8_tellNow  hh2) cw_X8_410 dX8_mercy_20 rfl ok_8 (by decide) rfl (Or.inr rfl) rfl ?_
    refine h_pop dX8_mercy_23 (fun _ => rfl) ?_
    refine h_aload_n dX8_mercy_24 rfl ?_
    refine h_iload_n dX8_mercy_25 rfl ?_
    obtain ⟨I2', e2, h⟩ := bnd_some h
    refine p_X8_103  dX8_mercy_26 ?_
    refine h_nmI e2 ?_
    refine h_iconst (-1 : Int32) dX8_mercy_29 k_iconst_m1 ?_
    refine h_istore_n dX8_mercy_30 (by decide) rfl ?_
    refine h_iconst (0 : Int32) dX8_mercy_31 k_iconst_0 ?_
    refine h_istore_n dX8_mercy_32 (by decide) rfl ?_
    exact (b_X8_mercy_33 X Q FU  h E)
  · rw [if_pos q1] at h
    refine h_aload_n dX8_mercy_13 rfl ?_
    refine h_iconst (1 : Int32) dX8_mercy_14 k_iconst_1 ?_
    obtain ⟨y3, hh3, h⟩ := obd_some h
    refine h_cVi [.inl (1 : Int32)] (m_X8_fail  hh3) cw_X8_298 dX8_mercy_15 rfl ok_8 (by decide) rfl (Or.inr rfl) rfl ?_
    cases h
    exact h_iret dX8_mercy_18 rfl E
theorem m_X8_mercy {I : Mem} {P : PMem} {O : Nat → Int64} {D : Bool} {n : Nat} {v1 : Int32} {r : (Int32 × Mem)}  (h : f_X8_mercy I v1 = some r) : MethR yX8_mercy cX8_mercy 4 (some .int) 10 [.inr (.inr (8, 0, 0)), .inl v1] I P O D n (some (.inl r.1)) r.2 P O D n := meth_R (Nat.le_refl _) (by decide) rfl (Nat.le_of_ble_eq_true rfl) rfl (fun X Q E => b_X8_mercy X Q  h E)
def f_X8_deaf   (I : Mem) (v1 : Int32) : Option (Int32 × Mem) :=
  bnd (upd4 I 8 0 0 2 (0 : Int32)) fun I1' =>
  (f_X8_isJudge I1' v1).bind fun y1 =>
  if y1 = 0 then ((f_X8_fail I1' (1 : Int32)).bind fun y4 =>
  some (y4.1, y4.2)) else ((f_X8_tellNow I1').bind fun y2 =>
  bnd (upd4 y2.2 8 0 0 41 ((y2.2 8 0 0 41) ^^^ (jshl (1 : Int32) v1))) fun I2' =>
  (f_X8_judgeAll I2').bind fun y3 =>
  some (y3.1, y3.2))
theorem b_X8_deaf (X : CX) (Q : State → Prop) {I : Mem} {P : PMem} {O : Nat → Int64} {D : Bool} {n : Nat} {v1 : Int32} {r : (Int32 × Mem)}  (h : f_X8_deaf I v1 = some r) (E : EndR X cX8_deaf RX8 2 (some .int) 10 n (some (.inl r.1)) r.2 P O D Q) : Here X cX8_deaf RX8 2 (some .int) 10 n 0 [some (.inr (.inr (8, 0, 0))), some (.inl v1)] [] I P O D n Q := by
  unfold f_X8_deaf at h
  refine h_aload_n dX8_deaf_0 rfl ?_
  refine h_iconst (0 : Int32) dX8_deaf_1 k_iconst_0 ?_
  obtain ⟨I1', e1, h⟩ := bnd_some h
  refine p_X8_150  dX8_deaf_2 ?_
  refine h_nmI e1 ?_
  refine h_aload_n dX8_deaf_5 rfl ?_
  refine h_iload_n dX8_deaf_6 rfl ?_
  obtain ⟨y1, hh1, h⟩ := obd_some h
  refine h_cVi [.inl v1] (m_X8_isJudge  hh1) cw_X8_419 dX8_deaf_7 rfl ok_8 (by decide) rfl (Or.inr rfl) rfl ?_
  refine h_if_ne (tgt := 19) dX8_deaf_10 (by decide) (fun q1 => ?_) (fun q1 => ?_)
  · rw [if_neg q1] at h
    refine h_aload_n dX8_deaf_19 rfl ?_
    obtain ⟨y2, hh2, h⟩ := obd_some h
    refine h_cVi [] (m_X8_tellNow  hh2) cw_X8_410 dX8_deaf_20 rfl ok_8 (by decide) rfl (Or.inr rfl) rfl ?_
    refine h_pop dX8_deaf_23 (fun _ => rfl) ?_
    refine h_aload_n dX8_deaf_24 rfl ?_
    refine h_dup dX8_deaf_25 (fun _ => rfl) ?_
    refine g_X8_343  dX8_deaf_26 ?_
    refine h_iconst (1 : Int32) dX8_deaf_29 k_iconst_1 ?_
    refine h_iload_n dX8_deaf_30 rfl ?_
    refine h_shl dX8_deaf_31 ?_
    refine h_ixor dX8_deaf_32 ?_
    obtain ⟨I2', e2, h⟩ := bnd_some h
    refine p_X8_343  dX8_deaf_33 ?_
    refine h_nmI e2 ?_
    refine h_aload_n dX8_deaf_36 rfl ?_
    obtain ⟨y3, hh3, h⟩ := obd_some h
    refine h_cVi [] (m_X8_judgeAll  hh3) cw_X8_398 dX8_deaf_37 rfl ok_8 (by decide) rfl (Or.inr rfl) rfl ?_
    cases h
    exact h_iret dX8_deaf_40 rfl E
  · rw [if_pos q1] at h
    refine h_aload_n dX8_deaf_13 rfl ?_
    refine h_iconst (1 : Int32) dX8_deaf_14 k_iconst_1 ?_
    obtain ⟨y4, hh4, h⟩ := obd_some h
    refine h_cVi [.inl (1 : Int32)] (m_X8_fail  hh4) cw_X8_298 dX8_deaf_15 rfl ok_8 (by decide) rfl (Or.inr rfl) rfl ?_
    cases h
    exact h_iret dX8_deaf_18 rfl E
theorem m_X8_deaf {I : Mem} {P : PMem} {O : Nat → Int64} {D : Bool} {n : Nat} {v1 : Int32} {r : (Int32 × Mem)}  (h : f_X8_deaf I v1 = some r) : MethR yX8_deaf cX8_deaf 2 (some .int) 10 [.inr (.inr (8, 0, 0)), .inl v1] I P O D n (some (.inl r.1)) r.2 P O D n := meth_R (Nat.le_refl _) (by decide) rfl (Nat.le_of_ble_eq_true rfl) rfl (fun X Q E => b_X8_deaf X Q  h E)
def f_X8_soonest_33   : Nat → Mem → Int32 → Int32 → Int32 → Int32 → Option (Int32 × Mem)
  | 0, _, _, _, _, _ => none
  | fu + 1, I, v1, v2, v3, v4 =>
    if (I 50 0 0 5) ≤ v4 then (if v1 = 0 then ((f_X8_orNone I v2).bind fun y1 =>
    some (y1, I)) else (some (v3, I))) else (gd (inb v4 6) <|
    bnd (jmin v2 (I 75 0 0 v4.toNatClampNeg)) fun x1 =>
    (f_X8_orNone I (I 75 0 0 v4.toNatClampNeg)).bind fun y2 =>
    bnd (jmax v3 y2) fun x2 =>
    (f_X8_soonest_33 fu) I v1 x1 x2 (v4 + (1 : Int32)))
theorem b_X8_soonest_33 (X : CX) (Q : State → Prop) {P : PMem} {O : Nat → Int64} {D : Bool} {n : Nat} {r : (Int32 × Mem)}  : ∀ (fu : Nat) {I : Mem} {v1 : Int32} {v2 : Int32} {v3 : Int32} {v4 : Int32}, f_X8_soonest_33 fu I v1 v2 v3 v4 = some r → EndR X cX8_soonest RX8 5 (some .int) 10 n (some (.inl r.1)) r.2 P O D Q → Here X cX8_soonest RX8 5 (some .int) 10 n 33 [some (.inr (.inr (8, 0, 0))), some (.inl v1), some (.inl v2), some (.inl v3), some (.inl v4)] [] I P O D n Q := by
  intro fu
  induction fu with
  | zero => intro I v1 v2 v3 v4 h E; cases h
  | succ fu ih =>
  intro I v1 v2 v3 v4 h E
  have H33 : ∀ (I : Mem) (v1 : Int32) (v2 : Int32) (v3 : Int32) (v4 : Int32), f_X8_soonest_33 fu I v1 v2 v3 v4 = some r → Here X cX8_soonest RX8 5 (some .int) 10 n 33 [some (.inr (.inr (8, 0, 0))), some (.inl v1), some (.inl v2), some (.inl v3), some (.inl v4)] [] I P O D n Q := fun _ _ _ _ _ b => ih b E
  simp only [f_X8_soonest_33] at h
  refine h_iload dX8_soonest_33 rfl ?_
  refine h_aload_n dX8_soonest_35 rfl ?_
  refine g_X8_34  dX8_soonest_36 ?_
  refine h_iconst (5 : Int32) dX8_soonest_39 k_iconst_5 ?_
  refine al_50  5 cl_5 dX8_soonest_40 rfl ?_
  refine h_icmp_ge (tgt := 77) dX8_soonest_41 (by decide) (fun q1 => ?_) (fun q1 => ?_)
  · rw [if_pos q1] at h
    refine h_iload_n dX8_soonest_77 rfl ?_
    refine h_if_ne (tgt := 88) dX8_soonest_78 (by decide) (fun q2 => ?_) (fun q2 => ?_)
    · rw [if_neg q2] at h
      refine h_iload_n dX8_soonest_88 rfl ?_
      cases h
      exact h_iret dX8_soonest_89 rfl E
    · rw [if_pos q2] at h
      refine h_iload_n dX8_soonest_81 rfl ?_
      obtain ⟨y1, hh1, h⟩ := obd_some h
      refine h_cSi [.inl v2] (m_X8_orNone  hh1) cs_X8_416 dX8_soonest_82 rfl (by decide) rfl (Or.inr rfl) rfl ?_
      refine h_goto (tgt := 89) dX8_soonest_85 (by decide) ?_
      cases h
      exact h_iret dX8_soonest_89 rfl E
  · rw [if_neg q1] at h
    refine h_iload_n dX8_soonest_44 rfl ?_
    refine h_aload_n dX8_soonest_45 rfl ?_
    refine g_X8_117  dX8_soonest_46 ?_
    refine h_iload dX8_soonest_49 rfl ?_
    obtain ⟨g1, h⟩ := gd_some h
    refine al_75  v4.toNatClampNeg rfl dX8_soonest_51 g1 ?_
    refine h_min dX8_soonest_52 ml_X8_187 wm1_min wm2 wm3_min (by decide) rfl ?_
    obtain ⟨x1, e1, h⟩ := bnd_some h
    refine h_nmv e1 ?_
    refine h_istore_n dX8_soonest_55 (by decide) rfl ?_
    refine h_iload_n dX8_soonest_56 rfl ?_
    refine h_aload_n dX8_soonest_57 rfl ?_
    refine g_X8_117  dX8_soonest_58 ?_
    refine h_iload dX8_soonest_61 rfl ?_
    refine al_75  v4.toNatClampNeg rfl dX8_soonest_63 g1 ?_
    obtain ⟨y2, hh2, h⟩ := obd_some h
    refine h_cSi [.inl (I 75 0 0 v4.toNatClampNeg)] (m_X8_orNone  hh2) cs_X8_416 dX8_soonest_64 rfl (by decide) rfl (Or.inr rfl) rfl ?_
    refine h_max dX8_soonest_67 ml_X8_378 wm1_max wm2 wm3_max (by decide) rfl ?_
    obtain ⟨x2, e2, h⟩ := bnd_some h
    refine h_nmv e2 ?_
    refine h_istore_n dX8_soonest_70 (by decide) rfl ?_
    refine h_iinc (1 : Int32) dX8_soonest_71 rfl k_iinc_1 (by decide) rfl ?_
    refine h_goto (tgt := 33) dX8_soonest_74 (by decide) ?_
    exact (H33 _ _ _ _ _ h)
def f_X8_soonest_14   (I : Mem) : Option (Int32 × Mem) :=
  (f_X8_fail I (1 : Int32)).bind fun y1 =>
  some (y1.1, y1.2)
theorem b_X8_soonest_14 (X : CX) (Q : State → Prop) {I : Mem} {P : PMem} {O : Nat → Int64} {D : Bool} {n : Nat} {r : (Int32 × Mem)}  (h : f_X8_soonest_14 I = some r) (E : EndR X cX8_soonest RX8 5 (some .int) 10 n (some (.inl r.1)) r.2 P O D Q) : Here X cX8_soonest RX8 5 (some .int) 10 n 14 [some (.inr (.inr (8, 0, 0))), none, none, none, none] [] I P O D n Q := by
  unfold f_X8_soonest_14 at h
  refine h_aload_n dX8_soonest_14 rfl ?_
  refine h_iconst (1 : Int32) dX8_soonest_15 k_iconst_1 ?_
  obtain ⟨y1, hh1, h⟩ := obd_some h
  refine h_cVi [.inl (1 : Int32)] (m_X8_fail  hh1) cw_X8_298 dX8_soonest_16 rfl ok_8 (by decide) rfl (Or.inr rfl) rfl ?_
  cases h
  exact h_iret dX8_soonest_19 rfl E
def f_X8_soonest   (I : Mem) (v1 : Int32) : Option (Int32 × Mem) :=
  bnd (upd4 I 8 0 0 2 (0 : Int32)) fun I1' =>
  if v1 < 0 then (f_X8_soonest_14 I1') else (if v1 ≤ (1 : Int32) then ((f_X8_tellNow I1').bind fun y1 =>
  f_X8_soonest_33 FU y1.2 v1 (100000 : Int32) (-1 : Int32) (0 : Int32)) else (f_X8_soonest_14 I1'))
theorem b_X8_soonest (X : CX) (Q : State → Prop) {I : Mem} {P : PMem} {O : Nat → Int64} {D : Bool} {n : Nat} {v1 : Int32} {r : (Int32 × Mem)}  (h : f_X8_soonest I v1 = some r) (E : EndR X cX8_soonest RX8 5 (some .int) 10 n (some (.inl r.1)) r.2 P O D Q) : Here X cX8_soonest RX8 5 (some .int) 10 n 0 [some (.inr (.inr (8, 0, 0))), some (.inl v1), none, none, none] [] I P O D n Q := by
  unfold f_X8_soonest at h
  refine h_aload_n dX8_soonest_0 rfl ?_
  refine h_iconst (0 : Int32) dX8_soonest_1 k_iconst_0 ?_
  obtain ⟨I1', e1, h⟩ := bnd_some h
  refine p_X8_150  dX8_soonest_2 ?_
  refine h_nmI e1 ?_
  refine h_iload_n dX8_soonest_5 rfl ?_
  refine h_if_lt (tgt := 14) dX8_soonest_6 (by decide) (fun q1 => ?_) (fun q1 => ?_)
  · rw [if_pos q1] at h
    exact h_mask [true, false, false, false, false] (b_X8_soonest_14 X Q  h E)
  · rw [if_neg q1] at h
    refine h_iload_n dX8_soonest_9 rfl ?_
    refine h_iconst (1 : Int32) dX8_soonest_10 k_iconst_1 ?_
    refine h_icmp_le (tgt := 20) dX8_soonest_11 (by decide) (fun q2 => ?_) (fun q2 => ?_)
    · rw [if_pos q2] at h
      refine h_aload_n dX8_soonest_20 rfl ?_
      obtain ⟨y1, hh1, h⟩ := obd_some h
      refine h_cVi [] (m_X8_tellNow  hh1) cw_X8_410 dX8_soonest_21 rfl ok_8 (by decide) rfl (Or.inr rfl) rfl ?_
      refine h_pop dX8_soonest_24 (fun _ => rfl) ?_
      refine h_ldci (100000 : Int32) dX8_soonest_25 kc_X8_186 ?_
      refine h_istore_n dX8_soonest_27 (by decide) rfl ?_
      refine h_iconst (-1 : Int32) dX8_soonest_28 k_iconst_m1 ?_
      refine h_istore_n dX8_soonest_29 (by decide) rfl ?_
      refine h_iconst (0 : Int32) dX8_soonest_30 k_iconst_0 ?_
      refine h_istore dX8_soonest_31 (by decide) rfl ?_
      exact (b_X8_soonest_33 X Q FU  h E)
    · rw [if_neg q2] at h
      exact h_mask [true, false, false, false, false] (b_X8_soonest_14 X Q  h E)
theorem m_X8_soonest {I : Mem} {P : PMem} {O : Nat → Int64} {D : Bool} {n : Nat} {v1 : Int32} {r : (Int32 × Mem)}  (h : f_X8_soonest I v1 = some r) : MethR yX8_soonest cX8_soonest 5 (some .int) 10 [.inr (.inr (8, 0, 0)), .inl v1] I P O D n (some (.inl r.1)) r.2 P O D n := meth_R (Nat.le_refl _) (by decide) rfl (Nat.le_of_ble_eq_true rfl) rfl (fun X Q E => b_X8_soonest X Q  h E)
def f_X8_see_79   (I : Mem) (s0 : Int32) (s1 : Int32) : Option (Int32 × Mem) :=
  gd (inb s1 8) <|
  bnd (upd4 I 79 0 0 s1.toNatClampNeg s0) fun I1' =>
  bnd (upd4 I1' 8 0 0 34 ((I1' 8 0 0 34) + (1 : Int32))) fun I2' =>
  some ((I2' 8 0 0 34), I2')
theorem b_X8_see_79 (X : CX) (Q : State → Prop) {I : Mem} {P : PMem} {O : Nat → Int64} {D : Bool} {n : Nat} {s0 : Int32} {s1 : Int32} {r : (Int32 × Mem)}  (h : f_X8_see_79 I s0 s1 = some r) (E : EndR X cX8_see RX8 4 (some .int) 4 n (some (.inl r.1)) r.2 P O D Q) : Here X cX8_see RX8 4 (some .int) 4 n 79 [some (.inr (.inr (8, 0, 0))), none, none, none] [.inl s0, .inl s1, .inr (.inr (79, 0, 0))] I P O D n Q := by
  unfold f_X8_see_79 at h
  obtain ⟨g1, h⟩ := gd_some h
  obtain ⟨I1', e1, h⟩ := bnd_some h
  refine as_79  s1.toNatClampNeg rfl dX8_see_79 g1 ?_
  refine h_nmI e1 ?_
  refine h_aload_n dX8_see_80 rfl ?_
  refine h_dup dX8_see_81 (fun _ => rfl) ?_
  refine g_X8_326  dX8_see_82 ?_
  refine h_iconst (1 : Int32) dX8_see_85 k_iconst_1 ?_
  refine h_iadd dX8_see_86 ?_
  obtain ⟨I2', e2, h⟩ := bnd_some h
  refine p_X8_326  dX8_see_87 ?_
  refine h_nmI e2 ?_
  refine h_aload_n dX8_see_90 rfl ?_
  refine g_X8_326  dX8_see_91 ?_
  cases h
  exact h_iret dX8_see_94 rfl E
def f_X8_see_21   (I : Mem) : Option (Int32 × Mem) :=
  (f_X8_fail I (1 : Int32)).bind fun y1 =>
  some (y1.1, y1.2)
theorem b_X8_see_21 (X : CX) (Q : State → Prop) {I : Mem} {P : PMem} {O : Nat → Int64} {D : Bool} {n : Nat} {r : (Int32 × Mem)}  (h : f_X8_see_21 I = some r) (E : EndR X cX8_see RX8 4 (some .int) 4 n (some (.inl r.1)) r.2 P O D Q) : Here X cX8_see RX8 4 (some .int) 4 n 21 [some (.inr (.inr (8, 0, 0))), none, none, none] [] I P O D n Q := by
  unfold f_X8_see_21 at h
  refine h_aload_n dX8_see_21 rfl ?_
  refine h_iconst (1 : Int32) dX8_see_22 k_iconst_1 ?_
  obtain ⟨y1, hh1, h⟩ := obd_some h
  refine h_cVi [.inl (1 : Int32)] (m_X8_fail  hh1) cw_X8_298 dX8_see_23 rfl ok_8 (by decide) rfl (Or.inr rfl) rfl ?_
  cases h
  exact h_iret dX8_see_26 rfl E
def f_X8_see   (I : Mem) (v1 : Int32) (v2 : Int32) (v3 : Int32) : Option (Int32 × Mem) :=
  bnd (upd4 I 8 0 0 2 (0 : Int32)) fun I1' =>
  (f_X8_isCase I1' v1).bind fun y1 =>
  if y1 = 0 then (f_X8_see_21 I1') else ((f_X8_isJudge I1' v2).bind fun y2 =>
  if y2 = 0 then (f_X8_see_21 I1') else (if (I1' 8 0 0 34) = (8 : Int32) then ((f_X8_refuse I1' (2 : Int32)).bind fun y3 =>
  some (y3.1, y3.2)) else (gd (inb (I1' 8 0 0 34) 8) <|
  bnd (upd4 I1' 77 0 0 ((I1' 8 0 0 34).toNatClampNeg) v1) fun I2' =>
  gd (inb (I2' 8 0 0 34) 8) <|
  bnd (upd4 I2' 78 0 0 ((I2' 8 0 0 34).toNatClampNeg) v2) fun I3' =>
  if v3 = 0 then (f_X8_see_79 I3' (0 : Int32) (I3' 8 0 0 34)) else (f_X8_see_79 I3' (1 : Int32) (I3' 8 0 0 34)))))
theorem b_X8_see (X : CX) (Q : State → Prop) {I : Mem} {P : PMem} {O : Nat → Int64} {D : Bool} {n : Nat} {v1 : Int32} {v2 : Int32} {v3 : Int32} {r : (Int32 × Mem)}  (h : f_X8_see I v1 v2 v3 = some r) (E : EndR X cX8_see RX8 4 (some .int) 4 n (some (.inl r.1)) r.2 P O D Q) : Here X cX8_see RX8 4 (some .int) 4 n 0 [some (.inr (.inr (8, 0, 0))), some (.inl v1), some (.inl v2), some (.inl v3)] [] I P O D n Q := by
  unfold f_X8_see at h
  refine h_aload_n dX8_see_0 rfl ?_
  refine h_iconst (0 : Int32) dX8_see_1 k_iconst_0 ?_
  obtain ⟨I1', e1, h⟩ := bnd_some h
  refine p_X8_150  dX8_see_2 ?_
  refine h_nmI e1 ?_
  refine h_aload_n dX8_see_5 rfl ?_
  refine h_iload_n dX8_see_6 rfl ?_
  obtain ⟨y1, hh1, h⟩ := obd_some h
  refine h_cVi [.inl v1] (m_X8_isCase  hh1) cw_X8_424 dX8_see_7 rfl ok_8 (by decide) rfl (Or.inr rfl) rfl ?_
  refine h_if_eq (tgt := 21) dX8_see_10 (by decide) (fun q1 => ?_) (fun q1 => ?_)
  · rw [if_pos q1] at h
    exact h_mask [true, false, false, false] (b_X8_see_21 X Q  h E)
  · rw [if_neg q1] at h
    refine h_aload_n dX8_see_13 rfl ?_
    refine h_iload_n dX8_see_14 rfl ?_
    obtain ⟨y2, hh2, h⟩ := obd_some h
    refine h_cVi [.inl v2] (m_X8_isJudge  hh2) cw_X8_419 dX8_see_15 rfl ok_8 (by decide) rfl (Or.inr rfl) rfl ?_
    refine h_if_ne (tgt := 27) dX8_see_18 (by decide) (fun q2 => ?_) (fun q2 => ?_)
    · rw [if_neg q2] at h
      refine h_aload_n dX8_see_27 rfl ?_
      refine g_X8_326  dX8_see_28 ?_
      refine h_bipush (8 : Int32) dX8_see_31 k_bipush_8 ?_
      refine h_icmp_ne (tgt := 42) dX8_see_33 (by decide) (fun q3 => ?_) (fun q3 => ?_)
      · rw [if_neg q3] at h
        refine h_aload_n dX8_see_42 rfl ?_
        refine g_X8_123  dX8_see_43 ?_
        refine h_aload_n dX8_see_46 rfl ?_
        refine g_X8_326  dX8_see_47 ?_
        refine h_iload_n dX8_see_50 rfl ?_
        obtain ⟨g1, h⟩ := gd_some h
        obtain ⟨I2', e2, h⟩ := bnd_some h
        refine as_77  ((I1' 8 0 0 34).toNatClampNeg) rfl dX8_see_51 g1 ?_
        refine h_nmI e2 ?_
        refine h_aload_n dX8_see_52 rfl ?_
        refine g_X8_126  dX8_see_53 ?_
        refine h_aload_n dX8_see_56 rfl ?_
        refine g_X8_326  dX8_see_57 ?_
        refine h_iload_n dX8_see_60 rfl ?_
        obtain ⟨g2, h⟩ := gd_some h
        obtain ⟨I3', e3, h⟩ := bnd_some h
        refine as_78  ((I2' 8 0 0 34).toNatClampNeg) rfl dX8_see_61 g2 ?_
        refine h_nmI e3 ?_
        refine h_aload_n dX8_see_62 rfl ?_
        refine g_X8_129  dX8_see_63 ?_
        refine h_aload_n dX8_see_66 rfl ?_
        refine g_X8_326  dX8_see_67 ?_
        refine h_iload_n dX8_see_70 rfl ?_
        refine h_if_eq (tgt := 78) dX8_see_71 (by decide) (fun q4 => ?_) (fun q4 => ?_)
        · rw [if_pos q4] at h
          refine h_iconst (0 : Int32) dX8_see_78 k_iconst_0 ?_
          exact h_mask [true, false, false, false] (b_X8_see_79 X Q  h E)
        · rw [if_neg q4] at h
          refine h_iconst (1 : Int32) dX8_see_74 k_iconst_1 ?_
          refine h_goto (tgt := 79) dX8_see_75 (by decide) ?_
          exact h_mask [true, false, false, false] (b_X8_see_79 X Q  h E)
      · rw [if_pos q3] at h
        refine h_aload_n dX8_see_36 rfl ?_
        refine h_iconst (2 : Int32) dX8_see_37 k_iconst_2 ?_
        obtain ⟨y3, hh3, h⟩ := obd_some h
        refine h_cVi [.inl (2 : Int32)] (m_X8_refuse  hh3) cw_X8_435 dX8_see_38 rfl ok_8 (by decide) rfl (Or.inr rfl) rfl ?_
        cases h
        exact h_iret dX8_see_41 rfl E
    · rw [if_pos q2] at h
      exact h_mask [true, false, false, false] (b_X8_see_21 X Q  h E)
theorem m_X8_see {I : Mem} {P : PMem} {O : Nat → Int64} {D : Bool} {n : Nat} {v1 : Int32} {v2 : Int32} {v3 : Int32} {r : (Int32 × Mem)}  (h : f_X8_see I v1 v2 v3 = some r) : MethR yX8_see cX8_see 4 (some .int) 4 [.inr (.inr (8, 0, 0)), .inl v1, .inl v2, .inl v3] I P O D n (some (.inl r.1)) r.2 P O D n := meth_R (Nat.le_refl _) (by decide) rfl (Nat.le_of_ble_eq_true rfl) rfl (fun X Q E => b_X8_see X Q  h E)
def f_X8_forget   (I : Mem) : Option (Int32 × Mem) :=
  bnd (upd4 I 8 0 0 2 (0 : Int32)) fun I1' =>
  if (I1' 8 0 0 34) = 0 then (some ((-1 : Int32), I1')) else (bnd (upd4 I1' 8 0 0 34 ((I1' 8 0 0 34) - (1 : Int32))) fun I2' =>
  some ((I2' 8 0 0 34), I2'))
theorem b_X8_forget (X : CX) (Q : State → Prop) {I : Mem} {P : PMem} {O : Nat → Int64} {D : Bool} {n : Nat} {r : (Int32 × Mem)}  (h : f_X8_forget I = some r) (E : EndR X cX8_forget RX8 1 (some .int) 2 n (some (.inl r.1)) r.2 P O D Q) : Here X cX8_forget RX8 1 (some .int) 2 n 0 [some (.inr (.inr (8, 0, 0)))] [] I P O D n Q := by
  unfold f_X8_forget at h
  refine h_aload_n dX8_forget_0 rfl ?_
  refine h_iconst (0 : Int32) dX8_forget_1 k_iconst_0 ?_
  obtain ⟨I1', e1, h⟩ := bnd_some h
  refine p_X8_150  dX8_forget_2 ?_
  refine h_nmI e1 ?_
  refine h_aload_n dX8_forget_5 rfl ?_
  refine g_X8_326  dX8_forget_6 ?_
  refine h_if_ne (tgt := 14) dX8_forget_9 (by decide) (fun q1 => ?_) (fun q1 => ?_)
  · rw [if_neg q1] at h
    refine h_aload_n dX8_forget_14 rfl ?_
    refine h_dup dX8_forget_15 (fun _ => rfl) ?_
    refine g_X8_326  dX8_forget_16 ?_
    refine h_iconst (1 : Int32) dX8_forget_19 k_iconst_1 ?_
    refine h_isub dX8_forget_20 ?_
    obtain ⟨I2', e2, h⟩ := bnd_some h
    refine p_X8_326  dX8_forget_21 ?_
    refine h_nmI e2 ?_
    refine h_aload_n dX8_forget_24 rfl ?_
    refine g_X8_326  dX8_forget_25 ?_
    cases h
    exact h_iret dX8_forget_28 rfl E
  · rw [if_pos q1] at h
    refine h_iconst (-1 : Int32) dX8_forget_12 k_iconst_m1 ?_
    cases h
    exact h_iret dX8_forget_13 rfl E
theorem m_X8_forget {I : Mem} {P : PMem} {O : Nat → Int64} {D : Bool} {n : Nat}  {r : (Int32 × Mem)}  (h : f_X8_forget I = some r) : MethR yX8_forget cX8_forget 1 (some .int) 2 [.inr (.inr (8, 0, 0))] I P O D n (some (.inl r.1)) r.2 P O D n := meth_R (Nat.le_refl _) (by decide) rfl (Nat.le_of_ble_eq_true rfl) rfl (fun X Q E => b_X8_forget X Q  h E)
def f_X8_isAsSeen_34 (k2 : Int32 → Option (Int32)) (I : Mem) (v1 : Int32) (s0 : Int32) : Option (Int32) :=
  gd (inb v1 8) <|
  if s0 = (I 79 0 0 v1.toNatClampNeg) then (k2 (v1 + (1 : Int32))) else (some (0 : Int32))
theorem b_X8_isAsSeen_34 (X : CX) (Q : State → Prop) {I : Mem} {P : PMem} {O : Nat → Int64} {D : Bool} {n : Nat} {k2 : Int32 → Option (Int32)} {v1 : Int32} {s0 : Int32} {r : (Int32)}  (H2 : ∀ (v1 : Int32), k2 v1 = some r → Here X cX8_isAsSeen RX8 2 (some .boolean) 6 n 2 [some (.inr (.inr (8, 0, 0))), some (.inl v1)] [] I P O D n Q) (h : f_X8_isAsSeen_34 k2 I v1 s0 = some r) (E : EndR X cX8_isAsSeen RX8 2 (some .boolean) 6 n (some (.inl r)) I P O D Q) : Here X cX8_isAsSeen RX8 2 (some .boolean) 6 n 34 [some (.inr (.inr (8, 0, 0))), some (.inl v1)] [.inl s0] I P O D n Q := by
  unfold f_X8_isAsSeen_34 at h
  refine h_aload_n dX8_isAsSeen_34 rfl ?_
  refine g_X8_129  dX8_isAsSeen_35 ?_
  refine h_iload_n dX8_isAsSeen_38 rfl ?_
  obtain ⟨g1, h⟩ := gd_some h
  refine al_79  v1.toNatClampNeg rfl dX8_isAsSeen_39 g1 ?_
  refine h_icmp_eq (tgt := 45) dX8_isAsSeen_40 (by decide) (fun q1 => ?_) (fun q1 => ?_)
  · rw [if_pos q1] at h
    refine h_iinc (1 : Int32) dX8_isAsSeen_45 rfl k_iinc_1 (by decide) rfl ?_
    refine h_goto (tgt := 2) dX8_isAsSeen_48 (by decide) ?_
    exact (H2 _ h)
  · rw [if_neg q1] at h
    refine h_iconst (0 : Int32) dX8_isAsSeen_43 k_iconst_0 ?_
    cases h
    exact h_zret dX8_isAsSeen_44 rfl rfl E
def f_X8_isAsSeen_2  (I : Mem) : Nat → Int32 → Option (Int32)
  | 0, _ => none
  | fu + 1, v1 =>
    if (I 8 0 0 34) ≤ v1 then (some (1 : Int32)) else (gd (inb v1 8) <|
    (f_X8_isVoided I (I 77 0 0 v1.toNatClampNeg) (I 78 0 0 v1.toNatClampNeg)).bind fun y1 =>
    if y1 = 0 then (f_X8_isAsSeen_34 (f_X8_isAsSeen_2 I fu) I v1 (0 : Int32)) else (f_X8_isAsSeen_34 (f_X8_isAsSeen_2 I fu) I v1 (1 : Int32)))
theorem b_X8_isAsSeen_2 (X : CX) (Q : State → Prop) {I : Mem} {P : PMem} {O : Nat → Int64} {D : Bool} {n : Nat} {r : (Int32)}  : ∀ (fu : Nat) {v1 : Int32}, f_X8_isAsSeen_2 I fu v1 = some r → EndR X cX8_isAsSeen RX8 2 (some .boolean) 6 n (some (.inl r)) I P O D Q → Here X cX8_isAsSeen RX8 2 (some .boolean) 6 n 2 [some (.inr (.inr (8, 0, 0))), some (.inl v1)] [] I P O D n Q := by
  intro fu
  induction fu with
  | zero => intro v1 h E; cases h
  | succ fu ih =>
  intro v1 h E
  have H2 : ∀ (v1 : Int32), f_X8_isAsSeen_2 I fu v1 = some r → Here X cX8_isAsSeen RX8 2 (some .boolean) 6 n 2 [some (.inr (.inr (8, 0, 0))), some (.inl v1)] [] I P O D n Q := fun _ b => ih b E
  simp only [f_X8_isAsSeen_2] at h
  refine h_iload_n dX8_isAsSeen_2 rfl ?_
  refine h_aload_n dX8_isAsSeen_3 rfl ?_
  refine g_X8_326  dX8_isAsSeen_4 ?_
  refine h_icmp_ge (tgt := 51) dX8_isAsSeen_7 (by decide) (fun q1 => ?_) (fun q1 => ?_)
  · rw [if_pos q1] at h
    refine h_iconst (1 : Int32) dX8_isAsSeen_51 k_iconst_1 ?_
    cases h
    exact h_zret dX8_isAsSeen_52 rfl rfl E
  · rw [if_neg q1] at h
    refine h_aload_n dX8_isAsSeen_10 rfl ?_
    refine h_aload_n dX8_isAsSeen_11 rfl ?_
    refine g_X8_123  dX8_isAsSeen_12 ?_
    refine h_iload_n dX8_isAsSeen_15 rfl ?_
    obtain ⟨g1, h⟩ := gd_some h
    refine al_77  v1.toNatClampNeg rfl dX8_isAsSeen_16 g1 ?_
    refine h_aload_n dX8_isAsSeen_17 rfl ?_
    refine g_X8_126  dX8_isAsSeen_18 ?_
    refine h_iload_n dX8_isAsSeen_21 rfl ?_
    refine al_78  v1.toNatClampNeg rfl dX8_isAsSeen_22 g1 ?_
    obtain ⟨y1, hh1, h⟩ := obd_some h
    refine h_cVi [.inl (I 77 0 0 v1.toNatClampNeg), .inl (I 78 0 0 v1.toNatClampNeg)] (m_X8_isVoided  hh1) cw_X8_381 dX8_isAsSeen_23 rfl ok_8 (by decide) rfl (Or.inr rfl) rfl ?_
    refine h_if_eq (tgt := 33) dX8_isAsSeen_26 (by decide) (fun q2 => ?_) (fun q2 => ?_)
    · rw [if_pos q2] at h
      refine h_iconst (0 : Int32) dX8_isAsSeen_33 k_iconst_0 ?_
      exact (b_X8_isAsSeen_34 X Q H2  h E)
    · rw [if_neg q2] at h
      refine h_iconst (1 : Int32) dX8_isAsSeen_29 k_iconst_1 ?_
      refine h_goto (tgt := 34) dX8_isAsSeen_30 (by decide) ?_
      exact (b_X8_isAsSeen_34 X Q H2  h E)
def f_X8_isAsSeen  (I : Mem)  : Option (Int32) :=
  f_X8_isAsSeen_2 I FU (0 : Int32)
theorem b_X8_isAsSeen (X : CX) (Q : State → Prop) {I : Mem} {P : PMem} {O : Nat → Int64} {D : Bool} {n : Nat} {r : (Int32)}  (h : f_X8_isAsSeen I = some r) (E : EndR X cX8_isAsSeen RX8 2 (some .boolean) 6 n (some (.inl r)) I P O D Q) : Here X cX8_isAsSeen RX8 2 (some .boolean) 6 n 0 [some (.inr (.inr (8, 0, 0))), none] [] I P O D n Q := by
  unfold f_X8_isAsSeen at h
  refine h_iconst (0 : Int32) dX8_isAsSeen_0 k_iconst_0 ?_
  refine h_istore_n dX8_isAsSeen_1 (by decide) rfl ?_
  exact (b_X8_isAsSeen_2 X Q FU  h E)
theorem m_X8_isAsSeen {I : Mem} {P : PMem} {O : Nat → Int64} {D : Bool} {n : Nat}  {r : (Int32)}  (h : f_X8_isAsSeen I = some r) : MethR yX8_isAsSeen cX8_isAsSeen 2 (some .boolean) 6 [.inr (.inr (8, 0, 0))] I P O D n (some (.inl r)) I P O D n := meth_R (Nat.le_refl _) (by decide) rfl (Nat.le_of_ble_eq_true rfl) rfl (fun X Q E => b_X8_isAsSeen X Q  h E)
def f_X8_sent_72   : Nat → Mem → Int32 → Int32 → Int32 → Int32 → Int32 → Option (Int32 × Mem)
  | 0, _, _, _, _, _, _ => none
  | fu + 1, I, v1, v2, v3, v4, v5 =>
    if ((I 50 0 0 0) * (61 : Int32)) ≤ v5 then (bnd (upd4 I 8 0 0 30 ((I 8 0 0 30) - (1 : Int32))) fun I1' =>
    if v2 = 0 then (some (v3, I1')) else (some (v4, I1'))) else (gd ((I 50 0 0 0) != 0) <|
    (f_X8_putRow 62 0 0 I ((I 8 0 0 30) - (1 : Int32)) v1 (jrem v5 (I 50 0 0 0)) (v5 / (I 50 0 0 0))).bind fun y1 =>
    (f_X8_isAsSeen y1).bind fun y2 =>
    if y2 = 0 then ((f_X8_sent_72 fu) y1 v1 v2 v3 v4 (v5 + (1 : Int32))) else (if v4 = (-1 : Int32) then (gd ((y1 50 0 0 0) != 0) <|
    bnd (((100 : Int32) * (v5 / (y1 50 0 0 0))) + (jrem v5 (y1 50 0 0 0))) fun x1 =>
    (f_X8_sent_72 fu) y1 v1 v2 (v3 + (1 : Int32)) x1 (v5 + (1 : Int32))) else ((f_X8_sent_72 fu) y1 v1 v2 (v3 + (1 : Int32)) v4 (v5 + (1 : Int32)))))
theorem b_X8_sent_72 (X : CX) (Q : State → Prop) {P : PMem} {O : Nat → Int64} {D : Bool} {n : Nat} {r : (Int32 × Mem)}  : ∀ (fu : Nat) {I : Mem} {v1 : Int32} {v2 : Int32} {v3 : Int32} {v4 : Int32} {v5 : Int32}, f_X8_sent_72 fu I v1 v2 v3 v4 v5 = some r → EndR X cX8_sent RX8 6 (some .int) 10 n (some (.inl r.1)) r.2 P O D Q → Here X cX8_sent RX8 6 (some .int) 10 n 72 [some (.inr (.inr (8, 0, 0))), some (.inl v1), some (.inl v2), some (.inl v3), some (.inl v4), some (.inl v5)] [] I P O D n Q := by
  intro fu
  induction fu with
  | zero => intro I v1 v2 v3 v4 v5 h E; cases h
  | succ fu ih =>
  intro I v1 v2 v3 v4 v5 h E
  have H72 : ∀ (I : Mem) (v1 : Int32) (v2 : Int32) (v3 : Int32) (v4 : Int32) (v5 : Int32), f_X8_sent_72 fu I v1 v2 v3 v4 v5 = some r → Here X cX8_sent RX8 6 (some .int) 10 n 72 [some (.inr (.inr (8, 0, 0))), some (.inl v1), some (.inl v2), some (.inl v3), some (.inl v4), some (.inl v5)] [] I P O D n Q := fun _ _ _ _ _ _ b => ih b E
  simp only [f_X8_sent_72] at h
  refine h_iload dX8_sent_72 rfl ?_
  refine h_aload_n dX8_sent_74 rfl ?_
  refine g_X8_34  dX8_sent_75 ?_
  refine h_iconst (0 : Int32) dX8_sent_78 k_iconst_0 ?_
  refine al_50  0 cl_0 dX8_sent_79 rfl ?_
  refine h_bipush (61 : Int32) dX8_sent_80 k_bipush_61 ?_
  refine h_imul dX8_sent_82 ?_
  refine h_icmp_ge (tgt := 172) dX8_sent_83 (by decide) (fun q1 => ?_) (fun q1 => ?_)
  · rw [if_pos q1] at h
    refine h_aload_n dX8_sent_172 rfl ?_
    refine h_dup dX8_sent_173 (fun _ => rfl) ?_
    refine g_X8_314  dX8_sent_174 ?_
    refine h_iconst (1 : Int32) dX8_sent_177 k_iconst_1 ?_
    refine h_isub dX8_sent_178 ?_
    obtain ⟨I1', e1, h⟩ := bnd_some h
    refine p_X8_314  dX8_sent_179 ?_
    refine h_nmI e1 ?_
    refine h_iload_n dX8_sent_182 rfl ?_
    refine h_if_ne (tgt := 190) dX8_sent_183 (by decide) (fun q2 => ?_) (fun q2 => ?_)
    · rw [if_neg q2] at h
      refine h_iload dX8_sent_190 rfl ?_
      cases h
      exact h_iret dX8_sent_192 rfl E
    · rw [if_pos q2] at h
      refine h_iload_n dX8_sent_186 rfl ?_
      refine h_goto (tgt := 192) dX8_sent_187 (by decide) ?_
      cases h
      exact h_iret dX8_sent_192 rfl E
  · rw [if_neg q1] at h
    refine h_aload_n dX8_sent_86 rfl ?_
    refine g_X8_73  dX8_sent_87 ?_
    refine h_aload_n dX8_sent_90 rfl ?_
    refine g_X8_314  dX8_sent_91 ?_
    refine h_iconst (1 : Int32) dX8_sent_94 k_iconst_1 ?_
    refine h_isub dX8_sent_95 ?_
    refine h_iload_n dX8_sent_96 rfl ?_
    refine h_iload dX8_sent_97 rfl ?_
    refine h_aload_n dX8_sent_99 rfl ?_
    refine g_X8_34  dX8_sent_100 ?_
    refine h_iconst (0 : Int32) dX8_sent_103 k_iconst_0 ?_
    refine al_50  0 cl_0 dX8_sent_104 rfl ?_
    obtain ⟨g1, h⟩ := gd_some h
    refine h_rem dX8_sent_105 g1 ?_
    refine h_iload dX8_sent_106 rfl ?_
    refine h_aload_n dX8_sent_108 rfl ?_
    refine g_X8_34  dX8_sent_109 ?_
    refine h_iconst (0 : Int32) dX8_sent_112 k_iconst_0 ?_
    refine al_50  0 cl_0 dX8_sent_113 rfl ?_
    refine h_div dX8_sent_114 g1 ?_
    obtain ⟨y1, hh1, h⟩ := obd_some h
    refine h_cSv [.inr (.inr (62, 0, 0)), .inl ((I 8 0 0 30) - (1 : Int32)), .inl v1, .inl (jrem v5 (I 50 0 0 0)), .inl (v5 / (I 50 0 0 0))] (m_X8_putRow rfl hh1) cs_X8_443 dX8_sent_115 rfl (by decide) rfl (Or.inr rfl) rfl ?_
    refine h_aload_n dX8_sent_118 rfl ?_
    obtain ⟨y2, hh2, h⟩ := obd_some h
    refine h_cVi [] (m_X8_isAsSeen  hh2) cw_X8_457 dX8_sent_119 rfl ok_8 (by decide) rfl (Or.inr rfl) rfl ?_
    refine h_if_ne (tgt := 128) dX8_sent_122 (by decide) (fun q3 => ?_) (fun q3 => ?_)
    · rw [if_neg q3] at h
      refine h_iinc (1 : Int32) dX8_sent_128 rfl k_iinc_1 (by decide) rfl ?_
      refine h_iload dX8_sent_131 rfl ?_
      refine h_iconst (-1 : Int32) dX8_sent_133 k_iconst_m1 ?_
      refine h_icmp_ne (tgt := 162) dX8_sent_134 (by decide) (fun q4 => ?_) (fun q4 => ?_)
      · rw [if_neg q4] at h
        refine h_iload dX8_sent_162 rfl ?_
        refine h_istore dX8_sent_164 (by decide) rfl ?_
        refine h_iinc (1 : Int32) dX8_sent_166 rfl k_iinc_1 (by decide) rfl ?_
        refine h_goto (tgt := 72) dX8_sent_169 (by decide) ?_
        exact (H72 _ _ _ _ _ _ h)
      · rw [if_pos q4] at h
        refine h_bipush (100 : Int32) dX8_sent_137 k_bipush_100 ?_
        refine h_iload dX8_sent_139 rfl ?_
        refine h_aload_n dX8_sent_141 rfl ?_
        refine g_X8_34  dX8_sent_142 ?_
        refine h_iconst (0 : Int32) dX8_sent_145 k_iconst_0 ?_
        refine al_50  0 cl_0 dX8_sent_146 rfl ?_
        obtain ⟨g2, h⟩ := gd_some h
        refine h_div dX8_sent_147 g2 ?_
        refine h_imul dX8_sent_148 ?_
        refine h_iload dX8_sent_149 rfl ?_
        refine h_aload_n dX8_sent_151 rfl ?_
        refine g_X8_34  dX8_sent_152 ?_
        refine h_iconst (0 : Int32) dX8_sent_155 k_iconst_0 ?_
        refine al_50  0 cl_0 dX8_sent_156 rfl ?_
        refine h_rem dX8_sent_157 g2 ?_
        refine h_iadd dX8_sent_158 ?_
        refine h_goto (tgt := 164) dX8_sent_159 (by decide) ?_
        obtain ⟨x1, e2, h⟩ := bnd_some h
        refine h_nmv e2 ?_
        refine h_istore dX8_sent_164 (by decide) rfl ?_
        refine h_iinc (1 : Int32) dX8_sent_166 rfl k_iinc_1 (by decide) rfl ?_
        refine h_goto (tgt := 72) dX8_sent_169 (by decide) ?_
        exact (H72 _ _ _ _ _ _ h)
    · rw [if_pos q3] at h
      refine h_goto (tgt := 166) dX8_sent_125 (by decide) ?_
      refine h_iinc (1 : Int32) dX8_sent_166 rfl k_iinc_1 (by decide) rfl ?_
      refine h_goto (tgt := 72) dX8_sent_169 (by decide) ?_
      exact (H72 _ _ _ _ _ _ h)
def f_X8_sent_25   (I : Mem) : Option (Int32 × Mem) :=
  (f_X8_fail I (1 : Int32)).bind fun y1 =>
  some (y1.1, y1.2)
theorem b_X8_sent_25 (X : CX) (Q : State → Prop) {I : Mem} {P : PMem} {O : Nat → Int64} {D : Bool} {n : Nat} {r : (Int32 × Mem)}  (h : f_X8_sent_25 I = some r) (E : EndR X cX8_sent RX8 6 (some .int) 10 n (some (.inl r.1)) r.2 P O D Q) : Here X cX8_sent RX8 6 (some .int) 10 n 25 [some (.inr (.inr (8, 0, 0))), none, none, none, none, none] [] I P O D n Q := by
  unfold f_X8_sent_25 at h
  refine h_aload_n dX8_sent_25 rfl ?_
  refine h_iconst (1 : Int32) dX8_sent_26 k_iconst_1 ?_
  obtain ⟨y1, hh1, h⟩ := obd_some h
  refine h_cVi [.inl (1 : Int32)] (m_X8_fail  hh1) cw_X8_298 dX8_sent_27 rfl ok_8 (by decide) rfl (Or.inr rfl) rfl ?_
  cases h
  exact h_iret dX8_sent_30 rfl E
def f_X8_sent   (I : Mem) (v1 : Int32) (v2 : Int32) : Option (Int32 × Mem) :=
  bnd (upd4 I 8 0 0 2 (0 : Int32)) fun I1' =>
  (f_X8_isCase I1' v1).bind fun y1 =>
  if y1 = 0 then (f_X8_sent_25 I1') else ((f_X8_isIn I1' v2.toInt64 (0 : Int64) (2 : Int64)).bind fun y2 =>
  if y2 = 0 then (f_X8_sent_25 I1') else ((f_X8_tellNow I1').bind fun y3 =>
  if v2 = (2 : Int32) then ((f_X8_isAsSeen y3.2).bind fun y4 =>
  if y4 = 0 then (some ((0 : Int32), y3.2)) else (some ((1 : Int32), y3.2))) else (bnd (upd4 y3.2 8 0 0 30 ((y3.2 8 0 0 30) + (1 : Int32))) fun I2' =>
  f_X8_sent_72 FU I2' v1 v2 (0 : Int32) (-1 : Int32) (0 : Int32))))
theorem b_X8_sent (X : CX) (Q : State → Prop) {I : Mem} {P : PMem} {O : Nat → Int64} {D : Bool} {n : Nat} {v1 : Int32} {v2 : Int32} {r : (Int32 × Mem)}  (h : f_X8_sent I v1 v2 = some r) (E : EndR X cX8_sent RX8 6 (some .int) 10 n (some (.inl r.1)) r.2 P O D Q) : Here X cX8_sent RX8 6 (some .int) 10 n 0 [some (.inr (.inr (8, 0, 0))), some (.inl v1), some (.inl v2), none, none, none] [] I P O D n Q := by
  unfold f_X8_sent at h
  refine h_aload_n dX8_sent_0 rfl ?_
  refine h_iconst (0 : Int32) dX8_sent_1 k_iconst_0 ?_
  obtain ⟨I1', e1, h⟩ := bnd_some h
  refine p_X8_150  dX8_sent_2 ?_
  refine h_nmI e1 ?_
  refine h_aload_n dX8_sent_5 rfl ?_
  refine h_iload_n dX8_sent_6 rfl ?_
  obtain ⟨y1, hh1, h⟩ := obd_some h
  refine h_cVi [.inl v1] (m_X8_isCase  hh1) cw_X8_424 dX8_sent_7 rfl ok_8 (by decide) rfl (Or.inr rfl) rfl ?_
  refine h_if_eq (tgt := 25) dX8_sent_10 (by decide) (fun q1 => ?_) (fun q1 => ?_)
  · rw [if_pos q1] at h
    exact h_mask [true, false, false, false, false, false] (b_X8_sent_25 X Q  h E)
  · rw [if_neg q1] at h
    refine h_iload_n dX8_sent_13 rfl ?_
    refine h_i2l dX8_sent_14 ?_
    refine h_lconst 0 dX8_sent_15 rfl ?_
    refine h_ldc2 2 dX8_sent_16 kl_X8_455 ?_
    obtain ⟨y2, hh2, h⟩ := obd_some h
    refine h_cSi [.inr (.inl v2.toInt64), .inr (.inl (0 : Int64)), .inr (.inl (2 : Int64))] (m_X8_isIn  hh2) cs_X8_153 dX8_sent_19 rfl (by decide) rfl (Or.inr rfl) rfl ?_
    refine h_if_ne (tgt := 31) dX8_sent_22 (by decide) (fun q2 => ?_) (fun q2 => ?_)
    · rw [if_neg q2] at h
      refine h_aload_n dX8_sent_31 rfl ?_
      obtain ⟨y3, hh3, h⟩ := obd_some h
      refine h_cVi [] (m_X8_tellNow  hh3) cw_X8_410 dX8_sent_32 rfl ok_8 (by decide) rfl (Or.inr rfl) rfl ?_
      refine h_pop dX8_sent_35 (fun _ => rfl) ?_
      refine h_iload_n dX8_sent_36 rfl ?_
      refine h_iconst (2 : Int32) dX8_sent_37 k_iconst_2 ?_
      refine h_icmp_ne (tgt := 54) dX8_sent_38 (by decide) (fun q3 => ?_) (fun q3 => ?_)
      · rw [if_neg q3] at h
        refine h_aload_n dX8_sent_54 rfl ?_
        refine h_dup dX8_sent_55 (fun _ => rfl) ?_
        refine g_X8_314  dX8_sent_56 ?_
        refine h_iconst (1 : Int32) dX8_sent_59 k_iconst_1 ?_
        refine h_iadd dX8_sent_60 ?_
        obtain ⟨I2', e2, h⟩ := bnd_some h
        refine p_X8_314  dX8_sent_61 ?_
        refine h_nmI e2 ?_
        refine h_iconst (0 : Int32) dX8_sent_64 k_iconst_0 ?_
        refine h_istore_n dX8_sent_65 (by decide) rfl ?_
        refine h_iconst (-1 : Int32) dX8_sent_66 k_iconst_m1 ?_
        refine h_istore dX8_sent_67 (by decide) rfl ?_
        refine h_iconst (0 : Int32) dX8_sent_69 k_iconst_0 ?_
        refine h_istore dX8_sent_70 (by decide) rfl ?_
        exact (b_X8_sent_72 X Q FU  h E)
      · rw [if_pos q3] at h
        refine h_aload_n dX8_sent_41 rfl ?_
        obtain ⟨y4, hh4, h⟩ := obd_some h
        refine h_cVi [] (m_X8_isAsSeen  hh4) cw_X8_457 dX8_sent_42 rfl ok_8 (by decide) rfl (Or.inr rfl) rfl ?_
        refine h_if_eq (tgt := 52) dX8_sent_45 (by decide) (fun q4 => ?_) (fun q4 => ?_)
        · rw [if_pos q4] at h
          refine h_iconst (0 : Int32) dX8_sent_52 k_iconst_0 ?_
          cases h
          exact h_iret dX8_sent_53 rfl E
        · rw [if_neg q4] at h
          refine h_iconst (1 : Int32) dX8_sent_48 k_iconst_1 ?_
          refine h_goto (tgt := 53) dX8_sent_49 (by decide) ?_
          cases h
          exact h_iret dX8_sent_53 rfl E
    · rw [if_pos q2] at h
      exact h_mask [true, false, false, false, false, false] (b_X8_sent_25 X Q  h E)
theorem m_X8_sent {I : Mem} {P : PMem} {O : Nat → Int64} {D : Bool} {n : Nat} {v1 : Int32} {v2 : Int32} {r : (Int32 × Mem)}  (h : f_X8_sent I v1 v2 = some r) : MethR yX8_sent cX8_sent 6 (some .int) 10 [.inr (.inr (8, 0, 0)), .inl v1, .inl v2] I P O D n (some (.inl r.1)) r.2 P O D n := meth_R (Nat.le_refl _) (by decide) rfl (Nat.le_of_ble_eq_true rfl) rfl (fun X Q E => b_X8_sent X Q  h E)
def f_X8_isGuiltyBy   (I : Mem) (v1 : Int32) (v2 : Int32) (v3 : Int32) : Option (Int32 × Mem) :=
  bnd (I 8 0 0 41) fun x1 =>
  bnd (upd4 I 8 0 0 41 ((I 8 0 0 41) ||| (jshl (1 : Int32) v2))) fun I1' =>
  bnd (upd4 I1' 8 0 0 43 v1) fun I2' =>
  bnd (upd4 I2' 8 0 0 42 (jshl (1 : Int32) v3)) fun I3' =>
  (f_X8_judgeCase I3' v1).bind fun y1 =>
  bnd (upd4 y1 8 0 0 41 x1) fun I4' =>
  gd (inb v1 6) <|
  if (100000 : Int32) ≤ (I4' 75 0 0 v1.toNatClampNeg) then (some ((0 : Int32), I4')) else (some ((1 : Int32), I4'))
theorem b_X8_isGuiltyBy (X : CX) (Q : State → Prop) {I : Mem} {P : PMem} {O : Nat → Int64} {D : Bool} {n : Nat} {v1 : Int32} {v2 : Int32} {v3 : Int32} {r : (Int32 × Mem)}  (h : f_X8_isGuiltyBy I v1 v2 v3 = some r) (E : EndR X cX8_isGuiltyBy RX8 5 (some .boolean) 7 n (some (.inl r.1)) r.2 P O D Q) : Here X cX8_isGuiltyBy RX8 5 (some .boolean) 7 n 0 [some (.inr (.inr (8, 0, 0))), some (.inl v1), some (.inl v2), some (.inl v3), none] [] I P O D n Q := by
  unfold f_X8_isGuiltyBy at h
  refine h_aload_n dX8_isGuiltyBy_0 rfl ?_
  refine g_X8_343  dX8_isGuiltyBy_1 ?_
  obtain ⟨x1, e1, h⟩ := bnd_some h
  refine h_nmv e1 ?_
  refine h_istore dX8_isGuiltyBy_4 (by decide) rfl ?_
  refine h_aload_n dX8_isGuiltyBy_6 rfl ?_
  refine h_dup dX8_isGuiltyBy_7 (fun _ => rfl) ?_
  refine g_X8_343  dX8_isGuiltyBy_8 ?_
  refine h_iconst (1 : Int32) dX8_isGuiltyBy_11 k_iconst_1 ?_
  refine h_iload_n dX8_isGuiltyBy_12 rfl ?_
  refine h_shl dX8_isGuiltyBy_13 ?_
  refine h_ior dX8_isGuiltyBy_14 ?_
  obtain ⟨I1', e2, h⟩ := bnd_some h
  refine p_X8_343  dX8_isGuiltyBy_15 ?_
  refine h_nmI e2 ?_
  refine h_aload_n dX8_isGuiltyBy_18 rfl ?_
  refine h_iload_n dX8_isGuiltyBy_19 rfl ?_
  obtain ⟨I2', e3, h⟩ := bnd_some h
  refine p_X8_103  dX8_isGuiltyBy_20 ?_
  refine h_nmI e3 ?_
  refine h_aload_n dX8_isGuiltyBy_23 rfl ?_
  refine h_iconst (1 : Int32) dX8_isGuiltyBy_24 k_iconst_1 ?_
  refine h_iload_n dX8_isGuiltyBy_25 rfl ?_
  refine h_shl dX8_isGuiltyBy_26 ?_
  obtain ⟨I3', e4, h⟩ := bnd_some h
  refine p_X8_340  dX8_isGuiltyBy_27 ?_
  refine h_nmI e4 ?_
  refine h_aload_n dX8_isGuiltyBy_30 rfl ?_
  refine h_iload_n dX8_isGuiltyBy_31 rfl ?_
  obtain ⟨y1, hh1, h⟩ := obd_some h
  refine h_cVv [.inl v1] (m_X8_judgeCase  hh1) cw_X8_401 dX8_isGuiltyBy_32 rfl ok_8 (by decide) rfl (Or.inr rfl) rfl ?_
  refine h_aload_n dX8_isGuiltyBy_35 rfl ?_
  refine h_iload dX8_isGuiltyBy_36 rfl ?_
  obtain ⟨I4', e5, h⟩ := bnd_some h
  refine p_X8_343  dX8_isGuiltyBy_38 ?_
  refine h_nmI e5 ?_
  refine h_aload_n dX8_isGuiltyBy_41 rfl ?_
  refine g_X8_117  dX8_isGuiltyBy_42 ?_
  refine h_iload_n dX8_isGuiltyBy_45 rfl ?_
  obtain ⟨g1, h⟩ := gd_some h
  refine al_75  v1.toNatClampNeg rfl dX8_isGuiltyBy_46 g1 ?_
  refine h_ldci (100000 : Int32) dX8_isGuiltyBy_47 kc_X8_186 ?_
  refine h_icmp_ge (tgt := 56) dX8_isGuiltyBy_49 (by decide) (fun q1 => ?_) (fun q1 => ?_)
  · rw [if_pos q1] at h
    refine h_iconst (0 : Int32) dX8_isGuiltyBy_56 k_iconst_0 ?_
    cases h
    exact h_zret dX8_isGuiltyBy_57 rfl rfl E
  · rw [if_neg q1] at h
    refine h_iconst (1 : Int32) dX8_isGuiltyBy_52 k_iconst_1 ?_
    refine h_goto (tgt := 57) dX8_isGuiltyBy_53 (by decide) ?_
    cases h
    exact h_zret dX8_isGuiltyBy_57 rfl rfl E
theorem m_X8_isGuiltyBy {I : Mem} {P : PMem} {O : Nat → Int64} {D : Bool} {n : Nat} {v1 : Int32} {v2 : Int32} {v3 : Int32} {r : (Int32 × Mem)}  (h : f_X8_isGuiltyBy I v1 v2 v3 = some r) : MethR yX8_isGuiltyBy cX8_isGuiltyBy 5 (some .boolean) 7 [.inr (.inr (8, 0, 0)), .inl v1, .inl v2, .inl v3] I P O D n (some (.inl r.1)) r.2 P O D n := meth_R (Nat.le_refl _) (by decide) rfl (Nat.le_of_ble_eq_true rfl) rfl (fun X Q E => b_X8_isGuiltyBy X Q  h E)
def f_X8_game_141 (k55 : Mem → Int32 → Int32 → Int32 → Int32 → Int32 → Int32 → Option (Int32 × Mem))  (I : Mem) (v1 : Int32) (v2 : Int32) (v3 : Int32) (v4 : Int32) (v5 : Int32) (v6 : Int32) (v8 : Int32) : Option (Int32 × Mem) :=
  if v8 = 0 then (k55 I v1 v2 v3 v4 v5 (v6 + (1 : Int32))) else (if v4 = (-1 : Int32) then (bnd (((10 : Int32) * v5) + v6) fun x1 =>
  k55 I v1 v2 (v3 + (1 : Int32)) x1 v5 (v6 + (1 : Int32))) else (k55 I v1 v2 (v3 + (1 : Int32)) v4 v5 (v6 + (1 : Int32))))
theorem b_X8_game_141 (X : CX) (Q : State → Prop) {I : Mem} {P : PMem} {O : Nat → Int64} {D : Bool} {n : Nat} {k55 : Mem → Int32 → Int32 → Int32 → Int32 → Int32 → Int32 → Option (Int32 × Mem)} {v1 : Int32} {v2 : Int32} {v3 : Int32} {v4 : Int32} {v5 : Int32} {v6 : Int32} {v8 : Int32} {r : (Int32 × Mem)}  (H55 : ∀ (I : Mem) (v1 : Int32) (v2 : Int32) (v3 : Int32) (v4 : Int32) (v5 : Int32) (v6 : Int32), k55 I v1 v2 v3 v4 v5 v6 = some r → Here X cX8_game RX8 10 (some .int) 10 n 55 [some (.inr (.inr (8, 0, 0))), some (.inl v1), some (.inl v2), some (.inl v3), some (.inl v4), some (.inl v5), some (.inl v6), none, none, none] [] I P O D n Q) (h : f_X8_game_141 k55 I v1 v2 v3 v4 v5 v6 v8 = some r) (E : EndR X cX8_game RX8 10 (some .int) 10 n (some (.inl r.1)) r.2 P O D Q) : Here X cX8_game RX8 10 (some .int) 10 n 141 [some (.inr (.inr (8, 0, 0))), some (.inl v1), some (.inl v2), some (.inl v3), some (.inl v4), some (.inl v5), some (.inl v6), none, some (.inl v8), none] [] I P O D n Q := by
  unfold f_X8_game_141 at h
  refine h_iload dX8_game_141 rfl ?_
  refine h_if_ne (tgt := 149) dX8_game_143 (by decide) (fun q1 => ?_) (fun q1 => ?_)
  · rw [if_neg q1] at h
    refine h_iinc (1 : Int32) dX8_game_149 rfl k_iinc_1 (by decide) rfl ?_
    refine h_iload dX8_game_152 rfl ?_
    refine h_iconst (-1 : Int32) dX8_game_154 k_iconst_m1 ?_
    refine h_icmp_ne (tgt := 169) dX8_game_155 (by decide) (fun q2 => ?_) (fun q2 => ?_)
    · rw [if_neg q2] at h
      refine h_iload dX8_game_169 rfl ?_
      refine h_istore dX8_game_171 (by decide) rfl ?_
      refine h_iinc (1 : Int32) dX8_game_173 rfl k_iinc_1 (by decide) rfl ?_
      refine h_goto (tgt := 55) dX8_game_176 (by decide) ?_
      exact h_mask [true, true, true, true, true, true, true, false, false, false] (H55 _ _ _ _ _ _ _ h)
    · rw [if_pos q2] at h
      refine h_bipush (10 : Int32) dX8_game_158 k_bipush_10 ?_
      refine h_iload dX8_game_160 rfl ?_
      refine h_imul dX8_game_162 ?_
      refine h_iload dX8_game_163 rfl ?_
      refine h_iadd dX8_game_165 ?_
      refine h_goto (tgt := 171) dX8_game_166 (by decide) ?_
      obtain ⟨x1, e1, h⟩ := bnd_some h
      refine h_nmv e1 ?_
      refine h_istore dX8_game_171 (by decide) rfl ?_
      refine h_iinc (1 : Int32) dX8_game_173 rfl k_iinc_1 (by decide) rfl ?_
      refine h_goto (tgt := 55) dX8_game_176 (by decide) ?_
      exact h_mask [true, true, true, true, true, true, true, false, false, false] (H55 _ _ _ _ _ _ _ h)
  · rw [if_pos q1] at h
    refine h_goto (tgt := 173) dX8_game_146 (by decide) ?_
    refine h_iinc (1 : Int32) dX8_game_173 rfl k_iinc_1 (by decide) rfl ?_
    refine h_goto (tgt := 55) dX8_game_176 (by decide) ?_
    exact h_mask [true, true, true, true, true, true, true, false, false, false] (H55 _ _ _ _ _ _ _ h)
def f_X8_game_83 (k55 : Mem → Int32 → Int32 → Int32 → Int32 → Int32 → Int32 → Option (Int32 × Mem))  : Nat → Mem → Int32 → Int32 → Int32 → Int32 → Int32 → Int32 → Int32 → Int32 → Int32 → Option (Int32 × Mem)
  | 0, _, _, _, _, _, _, _, _, _, _ => none
  | fu + 1, I, v1, v2, v3, v4, v5, v6, v7, v8, v9 =>
    if (I 50 0 0 4) ≤ v9 then (f_X8_game_141 k55 I v1 v2 v3 v4 v5 v6 v8) else (if v8 = 0 then (f_X8_game_141 k55 I v1 v2 v3 v4 v5 v6 v8) else (if v7 = 0 then ((f_X8_isGuiltyBy I v1 v9 v6).bind fun y1 =>
    if y1.1 = 0 then ((f_X8_game_83 k55 fu) y1.2 v1 v2 v3 v4 v5 v6 v7 (1 : Int32) (v9 + (1 : Int32))) else ((f_X8_game_83 k55 fu) y1.2 v1 v2 v3 v4 v5 v6 v7 (0 : Int32) (v9 + (1 : Int32)))) else ((f_X8_isGuiltyBy I v1 v5 v9).bind fun y2 =>
    (f_X8_game_83 k55 fu) y2.2 v1 v2 v3 v4 v5 v6 v7 y2.1 (v9 + (1 : Int32)))))
theorem b_X8_game_83 (X : CX) (Q : State → Prop) {P : PMem} {O : Nat → Int64} {D : Bool} {n : Nat} {k55 : Mem → Int32 → Int32 → Int32 → Int32 → Int32 → Int32 → Option (Int32 × Mem)} {r : (Int32 × Mem)}  (H55 : ∀ (I : Mem) (v1 : Int32) (v2 : Int32) (v3 : Int32) (v4 : Int32) (v5 : Int32) (v6 : Int32), k55 I v1 v2 v3 v4 v5 v6 = some r → Here X cX8_game RX8 10 (some .int) 10 n 55 [some (.inr (.inr (8, 0, 0))), some (.inl v1), some (.inl v2), some (.inl v3), some (.inl v4), some (.inl v5), some (.inl v6), none, none, none] [] I P O D n Q) : ∀ (fu : Nat) {I : Mem} {v1 : Int32} {v2 : Int32} {v3 : Int32} {v4 : Int32} {v5 : Int32} {v6 : Int32} {v7 : Int32} {v8 : Int32} {v9 : Int32}, f_X8_game_83 k55 fu I v1 v2 v3 v4 v5 v6 v7 v8 v9 = some r → EndR X cX8_game RX8 10 (some .int) 10 n (some (.inl r.1)) r.2 P O D Q → Here X cX8_game RX8 10 (some .int) 10 n 83 [some (.inr (.inr (8, 0, 0))), some (.inl v1), some (.inl v2), some (.inl v3), some (.inl v4), some (.inl v5), some (.inl v6), some (.inl v7), some (.inl v8), some (.inl v9)] [] I P O D n Q := by
  intro fu
  induction fu with
  | zero => intro I v1 v2 v3 v4 v5 v6 v7 v8 v9 h E; cases h
  | succ fu ih =>
  intro I v1 v2 v3 v4 v5 v6 v7 v8 v9 h E
  have H83 : ∀ (I : Mem) (v1 : Int32) (v2 : Int32) (v3 : Int32) (v4 : Int32) (v5 : Int32) (v6 : Int32) (v7 : Int32) (v8 : Int32) (v9 : Int32), f_X8_game_83 k55 fu I v1 v2 v3 v4 v5 v6 v7 v8 v9 = some r → Here X cX8_game RX8 10 (some .int) 10 n 83 [some (.inr (.inr (8, 0, 0))), some (.inl v1), some (.inl v2), some (.inl v3), some (.inl v4), some (.inl v5), some (.inl v6), some (.inl v7), some (.inl v8), some (.inl v9)] [] I P O D n Q := fun _ _ _ _ _ _ _ _ _ _ b => ih b E
  simp only [f_X8_game_83] at h
  refine h_iload dX8_game_83 rfl ?_
  refine h_aload_n dX8_game_85 rfl ?_
  refine g_X8_34  dX8_game_86 ?_
  refine h_iconst (4 : Int32) dX8_game_89 k_iconst_4 ?_
  refine al_50  4 cl_4 dX8_game_90 rfl ?_
  refine h_icmp_ge (tgt := 141) dX8_game_91 (by decide) (fun q1 => ?_) (fun q1 => ?_)
  · rw [if_pos q1] at h
    exact h_mask [true, true, true, true, true, true, true, false, true, false] (b_X8_game_141 X Q H55  h E)
  · rw [if_neg q1] at h
    refine h_iload dX8_game_94 rfl ?_
    refine h_if_eq (tgt := 141) dX8_game_96 (by decide) (fun q2 => ?_) (fun q2 => ?_)
    · rw [if_pos q2] at h
      exact h_mask [true, true, true, true, true, true, true, false, true, false] (b_X8_game_141 X Q H55  h E)
    · rw [if_neg q2] at h
      refine h_iload dX8_game_99 rfl ?_
      refine h_if_eq (tgt := 116) dX8_game_101 (by decide) (fun q3 => ?_) (fun q3 => ?_)
      · rw [if_pos q3] at h
        refine h_aload_n dX8_game_116 rfl ?_
        refine h_iload_n dX8_game_117 rfl ?_
        refine h_iload dX8_game_118 rfl ?_
        refine h_iload dX8_game_120 rfl ?_
        obtain ⟨y1, hh1, h⟩ := obd_some h
        refine h_cVi [.inl v1, .inl v9, .inl v6] (m_X8_isGuiltyBy  hh1) cw_X8_461 dX8_game_122 rfl ok_8 (by decide) rfl (Or.inr rfl) rfl ?_
        refine h_if_ne (tgt := 132) dX8_game_125 (by decide) (fun q4 => ?_) (fun q4 => ?_)
        · rw [if_neg q4] at h
          refine h_iconst (0 : Int32) dX8_game_132 k_iconst_0 ?_
          refine h_istore dX8_game_133 (by decide) rfl ?_
          refine h_iinc (1 : Int32) dX8_game_135 rfl k_iinc_1 (by decide) rfl ?_
          refine h_goto (tgt := 83) dX8_game_138 (by decide) ?_
          exact (H83 _ _ _ _ _ _ _ _ _ _ h)
        · rw [if_pos q4] at h
          refine h_iconst (1 : Int32) dX8_game_128 k_iconst_1 ?_
          refine h_goto (tgt := 133) dX8_game_129 (by decide) ?_
          refine h_istore dX8_game_133 (by decide) rfl ?_
          refine h_iinc (1 : Int32) dX8_game_135 rfl k_iinc_1 (by decide) rfl ?_
          refine h_goto (tgt := 83) dX8_game_138 (by decide) ?_
          exact (H83 _ _ _ _ _ _ _ _ _ _ h)
      · rw [if_neg q3] at h
        refine h_aload_n dX8_game_104 rfl ?_
        refine h_iload_n dX8_game_105 rfl ?_
        refine h_iload dX8_game_106 rfl ?_
        refine h_iload dX8_game_108 rfl ?_
        obtain ⟨y2, hh2, h⟩ := obd_some h
        refine h_cVi [.inl v1, .inl v5, .inl v9] (m_X8_isGuiltyBy  hh2) cw_X8_461 dX8_game_110 rfl ok_8 (by decide) rfl (Or.inr rfl) rfl ?_
        refine h_goto (tgt := 133) dX8_game_113 (by decide) ?_
        refine h_istore dX8_game_133 (by decide) rfl ?_
        refine h_iinc (1 : Int32) dX8_game_135 rfl k_iinc_1 (by decide) rfl ?_
        refine h_goto (tgt := 83) dX8_game_138 (by decide) ?_
        exact (H83 _ _ _ _ _ _ _ _ _ _ h)
def f_X8_game_55 (k41 : Mem → Int32 → Int32 → Int32 → Int32 → Int32 → Option (Int32 × Mem))  : Nat → Mem → Int32 → Int32 → Int32 → Int32 → Int32 → Int32 → Option (Int32 × Mem)
  | 0, _, _, _, _, _, _, _ => none
  | fu + 1, I, v1, v2, v3, v4, v5, v6 =>
    if (I 50 0 0 4) ≤ v6 then (k41 I v1 v2 v3 v4 (v5 + (1 : Int32))) else ((f_X8_isGuiltyBy I v1 v5 v6).bind fun y1 =>
    f_X8_game_83 (f_X8_game_55 k41 fu) FU y1.2 v1 v2 v3 v4 v5 v6 y1.1 (1 : Int32) (0 : Int32))
theorem b_X8_game_55 (X : CX) (Q : State → Prop) {P : PMem} {O : Nat → Int64} {D : Bool} {n : Nat} {k41 : Mem → Int32 → Int32 → Int32 → Int32 → Int32 → Option (Int32 × Mem)} {r : (Int32 × Mem)}  (H41 : ∀ (I : Mem) (v1 : Int32) (v2 : Int32) (v3 : Int32) (v4 : Int32) (v5 : Int32), k41 I v1 v2 v3 v4 v5 = some r → Here X cX8_game RX8 10 (some .int) 10 n 41 [some (.inr (.inr (8, 0, 0))), some (.inl v1), some (.inl v2), some (.inl v3), some (.inl v4), some (.inl v5), none, none, none, none] [] I P O D n Q) : ∀ (fu : Nat) {I : Mem} {v1 : Int32} {v2 : Int32} {v3 : Int32} {v4 : Int32} {v5 : Int32} {v6 : Int32}, f_X8_game_55 k41 fu I v1 v2 v3 v4 v5 v6 = some r → EndR X cX8_game RX8 10 (some .int) 10 n (some (.inl r.1)) r.2 P O D Q → Here X cX8_game RX8 10 (some .int) 10 n 55 [some (.inr (.inr (8, 0, 0))), some (.inl v1), some (.inl v2), some (.inl v3), some (.inl v4), some (.inl v5), some (.inl v6), none, none, none] [] I P O D n Q := by
  intro fu
  induction fu with
  | zero => intro I v1 v2 v3 v4 v5 v6 h E; cases h
  | succ fu ih =>
  intro I v1 v2 v3 v4 v5 v6 h E
  have H55 : ∀ (I : Mem) (v1 : Int32) (v2 : Int32) (v3 : Int32) (v4 : Int32) (v5 : Int32) (v6 : Int32), f_X8_game_55 k41 fu I v1 v2 v3 v4 v5 v6 = some r → Here X cX8_game RX8 10 (some .int) 10 n 55 [some (.inr (.inr (8, 0, 0))), some (.inl v1), some (.inl v2), some (.inl v3), some (.inl v4), some (.inl v5), some (.inl v6), none, none, none] [] I P O D n Q := fun _ _ _ _ _ _ _ b => ih b E
  simp only [f_X8_game_55] at h
  refine h_iload dX8_game_55 rfl ?_
  refine h_aload_n dX8_game_57 rfl ?_
  refine g_X8_34  dX8_game_58 ?_
  refine h_iconst (4 : Int32) dX8_game_61 k_iconst_4 ?_
  refine al_50  4 cl_4 dX8_game_62 rfl ?_
  refine h_icmp_ge (tgt := 179) dX8_game_63 (by decide) (fun q1 => ?_) (fun q1 => ?_)
  · rw [if_pos q1] at h
    refine h_iinc (1 : Int32) dX8_game_179 rfl k_iinc_1 (by decide) rfl ?_
    refine h_goto (tgt := 41) dX8_game_182 (by decide) ?_
    exact h_mask [true, true, true, true, true, true, false, false, false, false] (H41 _ _ _ _ _ _ h)
  · rw [if_neg q1] at h
    refine h_aload_n dX8_game_66 rfl ?_
    refine h_iload_n dX8_game_67 rfl ?_
    refine h_iload dX8_game_68 rfl ?_
    refine h_iload dX8_game_70 rfl ?_
    obtain ⟨y1, hh1, h⟩ := obd_some h
    refine h_cVi [.inl v1, .inl v5, .inl v6] (m_X8_isGuiltyBy  hh1) cw_X8_461 dX8_game_72 rfl ok_8 (by decide) rfl (Or.inr rfl) rfl ?_
    refine h_istore dX8_game_75 (by decide) rfl ?_
    refine h_iconst (1 : Int32) dX8_game_77 k_iconst_1 ?_
    refine h_istore dX8_game_78 (by decide) rfl ?_
    refine h_iconst (0 : Int32) dX8_game_80 k_iconst_0 ?_
    refine h_istore dX8_game_81 (by decide) rfl ?_
    exact (b_X8_game_83 X Q H55 FU  h E)
def f_X8_game_41   : Nat → Mem → Int32 → Int32 → Int32 → Int32 → Int32 → Option (Int32 × Mem)
  | 0, _, _, _, _, _, _ => none
  | fu + 1, I, v1, v2, v3, v4, v5 =>
    if (I 50 0 0 4) ≤ v5 then (if v2 = 0 then (some (v3, I)) else (some (v4, I))) else (f_X8_game_55 (f_X8_game_41 fu) FU I v1 v2 v3 v4 v5 (0 : Int32))
theorem b_X8_game_41 (X : CX) (Q : State → Prop) {P : PMem} {O : Nat → Int64} {D : Bool} {n : Nat} {r : (Int32 × Mem)}  : ∀ (fu : Nat) {I : Mem} {v1 : Int32} {v2 : Int32} {v3 : Int32} {v4 : Int32} {v5 : Int32}, f_X8_game_41 fu I v1 v2 v3 v4 v5 = some r → EndR X cX8_game RX8 10 (some .int) 10 n (some (.inl r.1)) r.2 P O D Q → Here X cX8_game RX8 10 (some .int) 10 n 41 [some (.inr (.inr (8, 0, 0))), some (.inl v1), some (.inl v2), some (.inl v3), some (.inl v4), some (.inl v5), none, none, none, none] [] I P O D n Q := by
  intro fu
  induction fu with
  | zero => intro I v1 v2 v3 v4 v5 h E; cases h
  | succ fu ih =>
  intro I v1 v2 v3 v4 v5 h E
  have H41 : ∀ (I : Mem) (v1 : Int32) (v2 : Int32) (v3 : Int32) (v4 : Int32) (v5 : Int32), f_X8_game_41 fu I v1 v2 v3 v4 v5 = some r → Here X cX8_game RX8 10 (some .int) 10 n 41 [some (.inr (.inr (8, 0, 0))), some (.inl v1), some (.inl v2), some (.inl v3), some (.inl v4), some (.inl v5), none, none, none, none] [] I P O D n Q := fun _ _ _ _ _ _ b => ih b E
  simp only [f_X8_game_41] at h
  refine h_iload dX8_game_41 rfl ?_
  refine h_aload_n dX8_game_43 rfl ?_
  refine g_X8_34  dX8_game_44 ?_
  refine h_iconst (4 : Int32) dX8_game_47 k_iconst_4 ?_
  refine al_50  4 cl_4 dX8_game_48 rfl ?_
  refine h_icmp_ge (tgt := 185) dX8_game_49 (by decide) (fun q1 => ?_) (fun q1 => ?_)
  · rw [if_pos q1] at h
    refine h_iload_n dX8_game_185 rfl ?_
    refine h_if_ne (tgt := 193) dX8_game_186 (by decide) (fun q2 => ?_) (fun q2 => ?_)
    · rw [if_neg q2] at h
      refine h_iload dX8_game_193 rfl ?_
      cases h
      exact h_iret dX8_game_195 rfl E
    · rw [if_pos q2] at h
      refine h_iload_n dX8_game_189 rfl ?_
      refine h_goto (tgt := 195) dX8_game_190 (by decide) ?_
      cases h
      exact h_iret dX8_game_195 rfl E
  · rw [if_neg q1] at h
    refine h_iconst (0 : Int32) dX8_game_52 k_iconst_0 ?_
    refine h_istore dX8_game_53 (by decide) rfl ?_
    exact (b_X8_game_55 X Q H41 FU  h E)
def f_X8_game_22   (I : Mem) : Option (Int32 × Mem) :=
  (f_X8_fail I (1 : Int32)).bind fun y1 =>
  some (y1.1, y1.2)
theorem b_X8_game_22 (X : CX) (Q : State → Prop) {I : Mem} {P : PMem} {O : Nat → Int64} {D : Bool} {n : Nat} {r : (Int32 × Mem)}  (h : f_X8_game_22 I = some r) (E : EndR X cX8_game RX8 10 (some .int) 10 n (some (.inl r.1)) r.2 P O D Q) : Here X cX8_game RX8 10 (some .int) 10 n 22 [some (.inr (.inr (8, 0, 0))), none, none, none, none, none, none, none, none, none] [] I P O D n Q := by
  unfold f_X8_game_22 at h
  refine h_aload_n dX8_game_22 rfl ?_
  refine h_iconst (1 : Int32) dX8_game_23 k_iconst_1 ?_
  obtain ⟨y1, hh1, h⟩ := obd_some h
  refine h_cVi [.inl (1 : Int32)] (m_X8_fail  hh1) cw_X8_298 dX8_game_24 rfl ok_8 (by decide) rfl (Or.inr rfl) rfl ?_
  cases h
  exact h_iret dX8_game_27 rfl E
def f_X8_game   (I : Mem) (v1 : Int32) (v2 : Int32) : Option (Int32 × Mem) :=
  bnd (upd4 I 8 0 0 2 (0 : Int32)) fun I1' =>
  (f_X8_isCase I1' v1).bind fun y1 =>
  if y1 = 0 then (f_X8_game_22 I1') else (if v2 < 0 then (f_X8_game_22 I1') else (if v2 ≤ (1 : Int32) then ((f_X8_tellNow I1').bind fun y2 =>
  f_X8_game_41 FU y2.2 v1 v2 (0 : Int32) (-1 : Int32) (0 : Int32)) else (f_X8_game_22 I1')))
theorem b_X8_game (X : CX) (Q : State → Prop) {I : Mem} {P : PMem} {O : Nat → Int64} {D : Bool} {n : Nat} {v1 : Int32} {v2 : Int32} {r : (Int32 × Mem)}  (h : f_X8_game I v1 v2 = some r) (E : EndR X cX8_game RX8 10 (some .int) 10 n (some (.inl r.1)) r.2 P O D Q) : Here X cX8_game RX8 10 (some .int) 10 n 0 [some (.inr (.inr (8, 0, 0))), some (.inl v1), some (.inl v2), none, none, none, none, none, none, none] [] I P O D n Q := by
  unfold f_X8_game at h
  refine h_aload_n dX8_game_0 rfl ?_
  refine h_iconst (0 : Int32) dX8_game_1 k_iconst_0 ?_
  obtain ⟨I1', e1, h⟩ := bnd_some h
  refine p_X8_150  dX8_game_2 ?_
  refine h_nmI e1 ?_
  refine h_aload_n dX8_game_5 rfl ?_
  refine h_iload_n dX8_game_6 rfl ?_
  obtain ⟨y1, hh1, h⟩ := obd_some h
  refine h_cVi [.inl v1] (m_X8_isCase  hh1) cw_X8_424 dX8_game_7 rfl ok_8 (by decide) rfl (Or.inr rfl) rfl ?_
  refine h_if_eq (tgt := 22) dX8_game_10 (by decide) (fun q1 => ?_) (fun q1 => ?_)
  · rw [if_pos q1] at h
    exact h_mask [true, false, false, false, false, false, false, false, false, false] (b_X8_game_22 X Q  h E)
  · rw [if_neg q1] at h
    refine h_iload_n dX8_game_13 rfl ?_
    refine h_if_lt (tgt := 22) dX8_game_14 (by decide) (fun q2 => ?_) (fun q2 => ?_)
    · rw [if_pos q2] at h
      exact h_mask [true, false, false, false, false, false, false, false, false, false] (b_X8_game_22 X Q  h E)
    · rw [if_neg q2] at h
      refine h_iload_n dX8_game_17 rfl ?_
      refine h_iconst (1 : Int32) dX8_game_18 k_iconst_1 ?_
      refine h_icmp_le (tgt := 28) dX8_game_19 (by decide) (fun q3 => ?_) (fun q3 => ?_)
      · rw [if_pos q3] at h
        refine h_aload_n dX8_game_28 rfl ?_
        obtain ⟨y2, hh2, h⟩ := obd_some h
        refine h_cVi [] (m_X8_tellNow  hh2) cw_X8_410 dX8_game_29 rfl ok_8 (by decide) rfl (Or.inr rfl) rfl ?_
        refine h_pop dX8_game_32 (fun _ => rfl) ?_
        refine h_iconst (0 : Int32) dX8_game_33 k_iconst_0 ?_
        refine h_istore_n dX8_game_34 (by decide) rfl ?_
        refine h_iconst (-1 : Int32) dX8_game_35 k_iconst_m1 ?_
        refine h_istore dX8_game_36 (by decide) rfl ?_
        refine h_iconst (0 : Int32) dX8_game_38 k_iconst_0 ?_
        refine h_istore dX8_game_39 (by decide) rfl ?_
        exact (b_X8_game_41 X Q FU  h E)
      · rw [if_neg q3] at h
        exact h_mask [true, false, false, false, false, false, false, false, false, false] (b_X8_game_22 X Q  h E)
theorem m_X8_game {I : Mem} {P : PMem} {O : Nat → Int64} {D : Bool} {n : Nat} {v1 : Int32} {v2 : Int32} {r : (Int32 × Mem)}  (h : f_X8_game I v1 v2 = some r) : MethR yX8_game cX8_game 10 (some .int) 10 [.inr (.inr (8, 0, 0)), .inl v1, .inl v2] I P O D n (some (.inl r.1)) r.2 P O D n := meth_R (Nat.le_refl _) (by decide) rfl (Nat.le_of_ble_eq_true rfl) rfl (fun X Q E => b_X8_game X Q  h E)
def f_X8_drawOf   (I : Mem) (v1 : Int32) : Option (Int32 × Mem) :=
  bnd (upd4 I 8 0 0 53 (((I 8 0 0 53) * (1103515245 : Int32)) + (12345 : Int32))) fun I1' =>
  gd (v1 != 0) <|
  some ((jrem ((jshr (I1' 8 0 0 53) (16 : Int32)) &&& (32767 : Int32)) v1), I1')
theorem b_X8_drawOf (X : CX) (Q : State → Prop) {I : Mem} {P : PMem} {O : Nat → Int64} {D : Bool} {n : Nat} {v1 : Int32} {r : (Int32 × Mem)}  (h : f_X8_drawOf I v1 = some r) (E : EndR X cX8_drawOf RX8 2 (some .int) 2 n (some (.inl r.1)) r.2 P O D Q) : Here X cX8_drawOf RX8 2 (some .int) 2 n 0 [some (.inr (.inr (8, 0, 0))), some (.inl v1)] [] I P O D n Q := by
  unfold f_X8_drawOf at h
  refine h_aload_n dX8_drawOf_0 rfl ?_
  refine h_aload_n dX8_drawOf_1 rfl ?_
  refine g_X8_464  dX8_drawOf_2 ?_
  refine h_ldcwi (1103515245 : Int32) dX8_drawOf_5 kc_X8_467 ?_
  refine h_imul dX8_drawOf_8 ?_
  refine h_sipush (12345 : Int32) dX8_drawOf_9 k_sipush_12345 ?_
  refine h_iadd dX8_drawOf_12 ?_
  obtain ⟨I1', e1, h⟩ := bnd_some h
  refine p_X8_464  dX8_drawOf_13 ?_
  refine h_nmI e1 ?_
  refine h_aload_n dX8_drawOf_16 rfl ?_
  refine g_X8_464  dX8_drawOf_17 ?_
  refine h_bipush (16 : Int32) dX8_drawOf_20 k_bipush_16 ?_
  refine h_shr dX8_drawOf_22 ?_
  refine h_sipush (32767 : Int32) dX8_drawOf_23 k_sipush_32767 ?_
  refine h_iand dX8_drawOf_26 ?_
  refine h_iload_n dX8_drawOf_27 rfl ?_
  obtain ⟨g1, h⟩ := gd_some h
  refine h_rem dX8_drawOf_28 g1 ?_
  cases h
  exact h_iret dX8_drawOf_29 rfl E
theorem m_X8_drawOf {I : Mem} {P : PMem} {O : Nat → Int64} {D : Bool} {n : Nat} {v1 : Int32} {r : (Int32 × Mem)}  (h : f_X8_drawOf I v1 = some r) : MethR yX8_drawOf cX8_drawOf 2 (some .int) 2 [.inr (.inr (8, 0, 0)), .inl v1] I P O D n (some (.inl r.1)) r.2 P O D n := meth_R (Nat.le_refl _) (by decide) rfl (Nat.le_of_ble_eq_true rfl) rfl (fun X Q E => b_X8_drawOf X Q  h E)
