theorem dX8_start_0 : decode cX8_start 0 = .ok (.aload_n 0, 1) := by decide +kernel
theorem dX8_start_1 : decode cX8_start 1 = .ok (.iconst 0, 1) := by decide +kernel
theorem dX8_start_2 : decode cX8_start 2 = .ok (.putfield 150, 3) := by decide +kernel
theorem dX8_start_5 : decode cX8_start 5 = .ok (.aload_n 0, 1) := by decide +kernel
theorem dX8_start_6 : decode cX8_start 6 = .ok (.iload_n 1, 1) := by decide +kernel
theorem dX8_start_7 : decode cX8_start 7 = .ok (.invokevirtual 419, 3) := by decide +kernel
theorem dX8_start_10 : decode cX8_start 10 = .ok (.ifCond .ne 9, 3) := by decide +kernel
theorem dX8_start_13 : decode cX8_start 13 = .ok (.aload_n 0, 1) := by decide +kernel
theorem dX8_start_14 : decode cX8_start 14 = .ok (.iconst 1, 1) := by decide +kernel
theorem dX8_start_15 : decode cX8_start 15 = .ok (.invokevirtual 298, 3) := by decide +kernel
theorem dX8_start_18 : decode cX8_start 18 = .ok (.ireturn, 1) := by decide +kernel
theorem dX8_start_19 : decode cX8_start 19 = .ok (.iload_n 2, 1) := by decide +kernel
theorem dX8_start_20 : decode cX8_start 20 = .ok (.i2l, 1) := by decide +kernel
theorem dX8_start_21 : decode cX8_start 21 = .ok (.lconst 0, 1) := by decide +kernel
theorem dX8_start_22 : decode cX8_start 22 = .ok (.ldc2_w 433, 3) := by decide +kernel
theorem dX8_start_25 : decode cX8_start 25 = .ok (.invokestatic 153, 3) := by decide +kernel
theorem dX8_start_28 : decode cX8_start 28 = .ok (.ifCond .ne 9, 3) := by decide +kernel
theorem dX8_start_31 : decode cX8_start 31 = .ok (.aload_n 0, 1) := by decide +kernel
theorem dX8_start_32 : decode cX8_start 32 = .ok (.iconst 1, 1) := by decide +kernel
theorem dX8_start_33 : decode cX8_start 33 = .ok (.invokevirtual 435, 3) := by decide +kernel
theorem dX8_start_36 : decode cX8_start 36 = .ok (.ireturn, 1) := by decide +kernel
theorem dX8_start_37 : decode cX8_start 37 = .ok (.aload_n 0, 1) := by decide +kernel
theorem dX8_start_38 : decode cX8_start 38 = .ok (.invokevirtual 438, 3) := by decide +kernel
theorem dX8_start_41 : decode cX8_start 41 = .ok (.aload_n 0, 1) := by decide +kernel
theorem dX8_start_42 : decode cX8_start 42 = .ok (.getfield 44, 3) := by decide +kernel
theorem dX8_start_45 : decode cX8_start 45 = .ok (.iload_n 1, 1) := by decide +kernel
theorem dX8_start_46 : decode cX8_start 46 = .ok (.iaload, 1) := by decide +kernel
theorem dX8_start_47 : decode cX8_start 47 = .ok (.istore_n 3, 1) := by decide +kernel
theorem dX8_start_48 : decode cX8_start 48 = .ok (.aload_n 0, 1) := by decide +kernel
theorem dX8_start_49 : decode cX8_start 49 = .ok (.getfield 44, 3) := by decide +kernel
theorem dX8_start_52 : decode cX8_start 52 = .ok (.iload_n 1, 1) := by decide +kernel
theorem dX8_start_53 : decode cX8_start 53 = .ok (.iload_n 2, 1) := by decide +kernel
theorem dX8_start_54 : decode cX8_start 54 = .ok (.iastore, 1) := by decide +kernel
theorem dX8_start_55 : decode cX8_start 55 = .ok (.iload_n 3, 1) := by decide +kernel
theorem dX8_start_56 : decode cX8_start 56 = .ok (.ireturn, 1) := by decide +kernel
theorem dX8_inn_0 : decode cX8_inn 0 = .ok (.aload_n 0, 1) := by decide +kernel
theorem dX8_inn_1 : decode cX8_inn 1 = .ok (.iconst 0, 1) := by decide +kernel
theorem dX8_inn_2 : decode cX8_inn 2 = .ok (.putfield 150, 3) := by decide +kernel
theorem dX8_inn_5 : decode cX8_inn 5 = .ok (.aload_n 0, 1) := by decide +kernel
theorem dX8_inn_6 : decode cX8_inn 6 = .ok (.iload_n 1, 1) := by decide +kernel
theorem dX8_inn_7 : decode cX8_inn 7 = .ok (.invokevirtual 413, 3) := by decide +kernel
theorem dX8_inn_10 : decode cX8_inn 10 = .ok (.ifCond .ne 10, 3) := by decide +kernel
theorem dX8_inn_13 : decode cX8_inn 13 = .ok (.aload_n 0, 1) := by decide +kernel
theorem dX8_inn_14 : decode cX8_inn 14 = .ok (.iconst 1, 1) := by decide +kernel
theorem dX8_inn_15 : decode cX8_inn 15 = .ok (.putfield 150, 3) := by decide +kernel
theorem dX8_inn_18 : decode cX8_inn 18 = .ok (.iconst 0, 1) := by decide +kernel
theorem dX8_inn_19 : decode cX8_inn 19 = .ok (.ireturn, 1) := by decide +kernel
theorem dX8_inn_20 : decode cX8_inn 20 = .ok (.aload_n 0, 1) := by decide +kernel
theorem dX8_inn_21 : decode cX8_inn 21 = .ok (.getfield 311, 3) := by decide +kernel
theorem dX8_inn_24 : decode cX8_inn 24 = .ok (.iload_n 1, 1) := by decide +kernel
theorem dX8_inn_25 : decode cX8_inn 25 = .ok (.ishr, 1) := by decide +kernel
theorem dX8_inn_26 : decode cX8_inn 26 = .ok (.iconst 1, 1) := by decide +kernel
theorem dX8_inn_27 : decode cX8_inn 27 = .ok (.iand, 1) := by decide +kernel
theorem dX8_inn_28 : decode cX8_inn 28 = .ok (.iload_n 2, 1) := by decide +kernel
theorem dX8_inn_29 : decode cX8_inn 29 = .ok (.ifCond .eq 7, 3) := by decide +kernel
theorem dX8_inn_32 : decode cX8_inn 32 = .ok (.iconst 1, 1) := by decide +kernel
theorem dX8_inn_33 : decode cX8_inn 33 = .ok (.goto 4, 3) := by decide +kernel
theorem dX8_inn_36 : decode cX8_inn 36 = .ok (.iconst 0, 1) := by decide +kernel
theorem dX8_inn_37 : decode cX8_inn 37 = .ok (.if_icmp .ne 15, 3) := by decide +kernel
theorem dX8_inn_40 : decode cX8_inn 40 = .ok (.aload_n 0, 1) := by decide +kernel
theorem dX8_inn_41 : decode cX8_inn 41 = .ok (.getfield 60, 3) := by decide +kernel
theorem dX8_inn_44 : decode cX8_inn 44 = .ok (.iconst 1, 1) := by decide +kernel
theorem dX8_inn_45 : decode cX8_inn 45 = .ok (.dup2, 1) := by decide +kernel
theorem dX8_inn_46 : decode cX8_inn 46 = .ok (.iaload, 1) := by decide +kernel
theorem dX8_inn_47 : decode cX8_inn 47 = .ok (.iconst 1, 1) := by decide +kernel
theorem dX8_inn_48 : decode cX8_inn 48 = .ok (.iadd, 1) := by decide +kernel
theorem dX8_inn_49 : decode cX8_inn 49 = .ok (.iastore, 1) := by decide +kernel
theorem dX8_inn_50 : decode cX8_inn 50 = .ok (.iconst 0, 1) := by decide +kernel
theorem dX8_inn_51 : decode cX8_inn 51 = .ok (.ireturn, 1) := by decide +kernel
theorem dX8_inn_52 : decode cX8_inn 52 = .ok (.aload_n 0, 1) := by decide +kernel
theorem dX8_inn_53 : decode cX8_inn 53 = .ok (.invokevirtual 438, 3) := by decide +kernel
theorem dX8_inn_56 : decode cX8_inn 56 = .ok (.aload_n 0, 1) := by decide +kernel
theorem dX8_inn_57 : decode cX8_inn 57 = .ok (.dup, 1) := by decide +kernel
theorem dX8_inn_58 : decode cX8_inn 58 = .ok (.getfield 311, 3) := by decide +kernel
theorem dX8_inn_61 : decode cX8_inn 61 = .ok (.iconst 1, 1) := by decide +kernel
theorem dX8_inn_62 : decode cX8_inn 62 = .ok (.iload_n 1, 1) := by decide +kernel
theorem dX8_inn_63 : decode cX8_inn 63 = .ok (.ishl, 1) := by decide +kernel
theorem dX8_inn_64 : decode cX8_inn 64 = .ok (.ixor, 1) := by decide +kernel
theorem dX8_inn_65 : decode cX8_inn 65 = .ok (.putfield 311, 3) := by decide +kernel
theorem dX8_inn_68 : decode cX8_inn 68 = .ok (.iconst 1, 1) := by decide +kernel
theorem dX8_inn_69 : decode cX8_inn 69 = .ok (.ireturn, 1) := by decide +kernel
theorem dX8_putRow_0 : decode cX8_putRow 0 = .ok (.aload_n 0, 1) := by decide +kernel
theorem dX8_putRow_1 : decode cX8_putRow 1 = .ok (.iconst 3, 1) := by decide +kernel
theorem dX8_putRow_2 : decode cX8_putRow 2 = .ok (.iload_n 1, 1) := by decide +kernel
theorem dX8_putRow_3 : decode cX8_putRow 3 = .ok (.imul, 1) := by decide +kernel
theorem dX8_putRow_4 : decode cX8_putRow 4 = .ok (.iload_n 2, 1) := by decide +kernel
theorem dX8_putRow_5 : decode cX8_putRow 5 = .ok (.iastore, 1) := by decide +kernel
theorem dX8_putRow_6 : decode cX8_putRow 6 = .ok (.aload_n 0, 1) := by decide +kernel
theorem dX8_putRow_7 : decode cX8_putRow 7 = .ok (.iconst 3, 1) := by decide +kernel
theorem dX8_putRow_8 : decode cX8_putRow 8 = .ok (.iload_n 1, 1) := by decide +kernel
theorem dX8_putRow_9 : decode cX8_putRow 9 = .ok (.imul, 1) := by decide +kernel
theorem dX8_putRow_10 : decode cX8_putRow 10 = .ok (.iconst 1, 1) := by decide +kernel
theorem dX8_putRow_11 : decode cX8_putRow 11 = .ok (.iadd, 1) := by decide +kernel
theorem dX8_putRow_12 : decode cX8_putRow 12 = .ok (.iload_n 3, 1) := by decide +kernel
theorem dX8_putRow_13 : decode cX8_putRow 13 = .ok (.iastore, 1) := by decide +kernel
theorem dX8_putRow_14 : decode cX8_putRow 14 = .ok (.aload_n 0, 1) := by decide +kernel
theorem dX8_putRow_15 : decode cX8_putRow 15 = .ok (.iconst 3, 1) := by decide +kernel
theorem dX8_putRow_16 : decode cX8_putRow 16 = .ok (.iload_n 1, 1) := by decide +kernel
theorem dX8_putRow_17 : decode cX8_putRow 17 = .ok (.imul, 1) := by decide +kernel
theorem dX8_putRow_18 : decode cX8_putRow 18 = .ok (.iconst 2, 1) := by decide +kernel
theorem dX8_putRow_19 : decode cX8_putRow 19 = .ok (.iadd, 1) := by decide +kernel
theorem dX8_putRow_20 : decode cX8_putRow 20 = .ok (.iload 4, 2) := by decide +kernel
theorem dX8_putRow_22 : decode cX8_putRow 22 = .ok (.iastore, 1) := by decide +kernel
theorem dX8_putRow_23 : decode cX8_putRow 23 = .ok (.return_, 1) := by decide +kernel
theorem dX8_word_0 : decode cX8_word 0 = .ok (.aload_n 0, 1) := by decide +kernel
theorem dX8_word_1 : decode cX8_word 1 = .ok (.iconst 0, 1) := by decide +kernel
theorem dX8_word_2 : decode cX8_word 2 = .ok (.putfield 150, 3) := by decide +kernel
theorem dX8_word_5 : decode cX8_word 5 = .ok (.aload_n 0, 1) := by decide +kernel
theorem dX8_word_6 : decode cX8_word 6 = .ok (.iload_n 1, 1) := by decide +kernel
theorem dX8_word_7 : decode cX8_word 7 = .ok (.invokevirtual 424, 3) := by decide +kernel
theorem dX8_word_10 : decode cX8_word 10 = .ok (.ifCond .eq 11, 3) := by decide +kernel
theorem dX8_word_13 : decode cX8_word 13 = .ok (.aload_n 0, 1) := by decide +kernel
theorem dX8_word_14 : decode cX8_word 14 = .ok (.iload_n 2, 1) := by decide +kernel
theorem dX8_word_15 : decode cX8_word 15 = .ok (.invokevirtual 413, 3) := by decide +kernel
theorem dX8_word_18 : decode cX8_word 18 = .ok (.ifCond .ne 9, 3) := by decide +kernel
theorem dX8_word_21 : decode cX8_word 21 = .ok (.aload_n 0, 1) := by decide +kernel
theorem dX8_word_22 : decode cX8_word 22 = .ok (.iconst 1, 1) := by decide +kernel
theorem dX8_word_23 : decode cX8_word 23 = .ok (.invokevirtual 298, 3) := by decide +kernel
theorem dX8_word_26 : decode cX8_word 26 = .ok (.ireturn, 1) := by decide +kernel
theorem dX8_word_27 : decode cX8_word 27 = .ok (.aload_n 0, 1) := by decide +kernel
theorem dX8_word_28 : decode cX8_word 28 = .ok (.getfield 314, 3) := by decide +kernel
theorem dX8_word_31 : decode cX8_word 31 = .ok (.iconst 4, 1) := by decide +kernel
theorem dX8_word_32 : decode cX8_word 32 = .ok (.if_icmp .eq 15, 3) := by decide +kernel
theorem dX8_word_35 : decode cX8_word 35 = .ok (.iload_n 3, 1) := by decide +kernel
theorem dX8_word_36 : decode cX8_word 36 = .ok (.i2l, 1) := by decide +kernel
theorem dX8_word_37 : decode cX8_word 37 = .ok (.lconst 0, 1) := by decide +kernel
theorem dX8_word_38 : decode cX8_word 38 = .ok (.ldc2_w 441, 3) := by decide +kernel
theorem dX8_word_41 : decode cX8_word 41 = .ok (.invokestatic 153, 3) := by decide +kernel
theorem dX8_word_44 : decode cX8_word 44 = .ok (.ifCond .ne 9, 3) := by decide +kernel
theorem dX8_word_47 : decode cX8_word 47 = .ok (.aload_n 0, 1) := by decide +kernel
theorem dX8_word_48 : decode cX8_word 48 = .ok (.iconst 1, 1) := by decide +kernel
theorem dX8_word_49 : decode cX8_word 49 = .ok (.invokevirtual 435, 3) := by decide +kernel
theorem dX8_word_52 : decode cX8_word 52 = .ok (.ireturn, 1) := by decide +kernel
theorem dX8_word_53 : decode cX8_word 53 = .ok (.aload_n 0, 1) := by decide +kernel
theorem dX8_word_54 : decode cX8_word 54 = .ok (.invokevirtual 438, 3) := by decide +kernel
theorem dX8_word_57 : decode cX8_word 57 = .ok (.aload_n 0, 1) := by decide +kernel
theorem dX8_word_58 : decode cX8_word 58 = .ok (.getfield 73, 3) := by decide +kernel
theorem dX8_word_61 : decode cX8_word 61 = .ok (.aload_n 0, 1) := by decide +kernel
theorem dX8_word_62 : decode cX8_word 62 = .ok (.getfield 314, 3) := by decide +kernel
theorem dX8_word_65 : decode cX8_word 65 = .ok (.iload_n 1, 1) := by decide +kernel
theorem dX8_word_66 : decode cX8_word 66 = .ok (.iload_n 2, 1) := by decide +kernel
theorem dX8_word_67 : decode cX8_word 67 = .ok (.iload_n 3, 1) := by decide +kernel
theorem dX8_word_68 : decode cX8_word 68 = .ok (.invokestatic 443, 3) := by decide +kernel
theorem dX8_word_71 : decode cX8_word 71 = .ok (.aload_n 0, 1) := by decide +kernel
theorem dX8_word_72 : decode cX8_word 72 = .ok (.dup, 1) := by decide +kernel
theorem dX8_word_73 : decode cX8_word 73 = .ok (.getfield 314, 3) := by decide +kernel
theorem dX8_word_76 : decode cX8_word 76 = .ok (.iconst 1, 1) := by decide +kernel
theorem dX8_word_77 : decode cX8_word 77 = .ok (.iadd, 1) := by decide +kernel
theorem dX8_word_78 : decode cX8_word 78 = .ok (.putfield 314, 3) := by decide +kernel
theorem dX8_word_81 : decode cX8_word 81 = .ok (.aload_n 0, 1) := by decide +kernel
theorem dX8_word_82 : decode cX8_word 82 = .ok (.getfield 314, 3) := by decide +kernel
theorem dX8_word_85 : decode cX8_word 85 = .ok (.ireturn, 1) := by decide +kernel
theorem dX8_feast_0 : decode cX8_feast 0 = .ok (.aload_n 0, 1) := by decide +kernel
theorem dX8_feast_1 : decode cX8_feast 1 = .ok (.iconst 0, 1) := by decide +kernel
theorem dX8_feast_2 : decode cX8_feast 2 = .ok (.putfield 150, 3) := by decide +kernel
theorem dX8_feast_5 : decode cX8_feast 5 = .ok (.aload_n 0, 1) := by decide +kernel
theorem dX8_feast_6 : decode cX8_feast 6 = .ok (.iload_n 1, 1) := by decide +kernel
theorem dX8_feast_7 : decode cX8_feast 7 = .ok (.invokevirtual 413, 3) := by decide +kernel
theorem dX8_feast_10 : decode cX8_feast 10 = .ok (.ifCond .ne 9, 3) := by decide +kernel
theorem dX8_feast_13 : decode cX8_feast 13 = .ok (.aload_n 0, 1) := by decide +kernel
theorem dX8_feast_14 : decode cX8_feast 14 = .ok (.iconst 1, 1) := by decide +kernel
theorem dX8_feast_15 : decode cX8_feast 15 = .ok (.invokevirtual 298, 3) := by decide +kernel
theorem dX8_feast_18 : decode cX8_feast 18 = .ok (.ireturn, 1) := by decide +kernel
theorem dX8_feast_19 : decode cX8_feast 19 = .ok (.aload_n 0, 1) := by decide +kernel
theorem dX8_feast_20 : decode cX8_feast 20 = .ok (.getfield 317, 3) := by decide +kernel
theorem dX8_feast_23 : decode cX8_feast 23 = .ok (.iconst 4, 1) := by decide +kernel
theorem dX8_feast_24 : decode cX8_feast 24 = .ok (.if_icmp .eq 28, 3) := by decide +kernel
theorem dX8_feast_27 : decode cX8_feast 27 = .ok (.iload_n 2, 1) := by decide +kernel
theorem dX8_feast_28 : decode cX8_feast 28 = .ok (.i2l, 1) := by decide +kernel
theorem dX8_feast_29 : decode cX8_feast 29 = .ok (.lconst 0, 1) := by decide +kernel
theorem dX8_feast_30 : decode cX8_feast 30 = .ok (.ldc2_w 441, 3) := by decide +kernel
theorem dX8_feast_33 : decode cX8_feast 33 = .ok (.invokestatic 153, 3) := by decide +kernel
theorem dX8_feast_36 : decode cX8_feast 36 = .ok (.ifCond .eq 16, 3) := by decide +kernel
theorem dX8_feast_39 : decode cX8_feast 39 = .ok (.iload_n 3, 1) := by decide +kernel
theorem dX8_feast_40 : decode cX8_feast 40 = .ok (.i2l, 1) := by decide +kernel
theorem dX8_feast_41 : decode cX8_feast 41 = .ok (.iload_n 2, 1) := by decide +kernel
theorem dX8_feast_42 : decode cX8_feast 42 = .ok (.i2l, 1) := by decide +kernel
theorem dX8_feast_43 : decode cX8_feast 43 = .ok (.ldc2_w 441, 3) := by decide +kernel
theorem dX8_feast_46 : decode cX8_feast 46 = .ok (.invokestatic 153, 3) := by decide +kernel
theorem dX8_feast_49 : decode cX8_feast 49 = .ok (.ifCond .ne 9, 3) := by decide +kernel
theorem dX8_feast_52 : decode cX8_feast 52 = .ok (.aload_n 0, 1) := by decide +kernel
theorem dX8_feast_53 : decode cX8_feast 53 = .ok (.iconst 1, 1) := by decide +kernel
theorem dX8_feast_54 : decode cX8_feast 54 = .ok (.invokevirtual 435, 3) := by decide +kernel
theorem dX8_feast_57 : decode cX8_feast 57 = .ok (.ireturn, 1) := by decide +kernel
theorem dX8_feast_58 : decode cX8_feast 58 = .ok (.aload_n 0, 1) := by decide +kernel
theorem dX8_feast_59 : decode cX8_feast 59 = .ok (.invokevirtual 438, 3) := by decide +kernel
theorem dX8_feast_62 : decode cX8_feast 62 = .ok (.aload_n 0, 1) := by decide +kernel
theorem dX8_feast_63 : decode cX8_feast 63 = .ok (.getfield 76, 3) := by decide +kernel
theorem dX8_feast_66 : decode cX8_feast 66 = .ok (.aload_n 0, 1) := by decide +kernel
theorem dX8_feast_67 : decode cX8_feast 67 = .ok (.getfield 317, 3) := by decide +kernel
theorem dX8_feast_70 : decode cX8_feast 70 = .ok (.iload_n 1, 1) := by decide +kernel
theorem dX8_feast_71 : decode cX8_feast 71 = .ok (.iload_n 2, 1) := by decide +kernel
theorem dX8_feast_72 : decode cX8_feast 72 = .ok (.iload_n 3, 1) := by decide +kernel
theorem dX8_feast_73 : decode cX8_feast 73 = .ok (.invokestatic 443, 3) := by decide +kernel
theorem dX8_feast_76 : decode cX8_feast 76 = .ok (.aload_n 0, 1) := by decide +kernel
theorem dX8_feast_77 : decode cX8_feast 77 = .ok (.dup, 1) := by decide +kernel
theorem dX8_feast_78 : decode cX8_feast 78 = .ok (.getfield 317, 3) := by decide +kernel
theorem dX8_feast_81 : decode cX8_feast 81 = .ok (.iconst 1, 1) := by decide +kernel
theorem dX8_feast_82 : decode cX8_feast 82 = .ok (.iadd, 1) := by decide +kernel
theorem dX8_feast_83 : decode cX8_feast 83 = .ok (.putfield 317, 3) := by decide +kernel
theorem dX8_feast_86 : decode cX8_feast 86 = .ok (.aload_n 0, 1) := by decide +kernel
theorem dX8_feast_87 : decode cX8_feast 87 = .ok (.getfield 317, 3) := by decide +kernel
theorem dX8_feast_90 : decode cX8_feast 90 = .ok (.ireturn, 1) := by decide +kernel
theorem dX8_flood_0 : decode cX8_flood 0 = .ok (.aload_n 0, 1) := by decide +kernel
theorem dX8_flood_1 : decode cX8_flood 1 = .ok (.iconst 0, 1) := by decide +kernel
theorem dX8_flood_2 : decode cX8_flood 2 = .ok (.putfield 150, 3) := by decide +kernel
theorem dX8_flood_5 : decode cX8_flood 5 = .ok (.aload_n 0, 1) := by decide +kernel
theorem dX8_flood_6 : decode cX8_flood 6 = .ok (.iload_n 1, 1) := by decide +kernel
theorem dX8_flood_7 : decode cX8_flood 7 = .ok (.invokevirtual 413, 3) := by decide +kernel
theorem dX8_flood_10 : decode cX8_flood 10 = .ok (.ifCond .ne 9, 3) := by decide +kernel
theorem dX8_flood_13 : decode cX8_flood 13 = .ok (.aload_n 0, 1) := by decide +kernel
theorem dX8_flood_14 : decode cX8_flood 14 = .ok (.iconst 1, 1) := by decide +kernel
theorem dX8_flood_15 : decode cX8_flood 15 = .ok (.invokevirtual 298, 3) := by decide +kernel
theorem dX8_flood_18 : decode cX8_flood 18 = .ok (.ireturn, 1) := by decide +kernel
theorem dX8_flood_19 : decode cX8_flood 19 = .ok (.aload_n 0, 1) := by decide +kernel
theorem dX8_flood_20 : decode cX8_flood 20 = .ok (.getfield 320, 3) := by decide +kernel
theorem dX8_flood_23 : decode cX8_flood 23 = .ok (.iconst 4, 1) := by decide +kernel
theorem dX8_flood_24 : decode cX8_flood 24 = .ok (.if_icmp .eq 27, 3) := by decide +kernel
theorem dX8_flood_27 : decode cX8_flood 27 = .ok (.iload_n 2, 1) := by decide +kernel
theorem dX8_flood_28 : decode cX8_flood 28 = .ok (.i2l, 1) := by decide +kernel
theorem dX8_flood_29 : decode cX8_flood 29 = .ok (.lconst 0, 1) := by decide +kernel
theorem dX8_flood_30 : decode cX8_flood 30 = .ok (.ldc2_w 441, 3) := by decide +kernel
theorem dX8_flood_33 : decode cX8_flood 33 = .ok (.invokestatic 153, 3) := by decide +kernel
theorem dX8_flood_36 : decode cX8_flood 36 = .ok (.ifCond .eq 15, 3) := by decide +kernel
theorem dX8_flood_39 : decode cX8_flood 39 = .ok (.iload_n 3, 1) := by decide +kernel
theorem dX8_flood_40 : decode cX8_flood 40 = .ok (.i2l, 1) := by decide +kernel
theorem dX8_flood_41 : decode cX8_flood 41 = .ok (.lconst 0, 1) := by decide +kernel
theorem dX8_flood_42 : decode cX8_flood 42 = .ok (.ldc2_w 447, 3) := by decide +kernel
theorem dX8_flood_45 : decode cX8_flood 45 = .ok (.invokestatic 153, 3) := by decide +kernel
theorem dX8_flood_48 : decode cX8_flood 48 = .ok (.ifCond .ne 9, 3) := by decide +kernel
theorem dX8_flood_51 : decode cX8_flood 51 = .ok (.aload_n 0, 1) := by decide +kernel
theorem dX8_flood_52 : decode cX8_flood 52 = .ok (.iconst 1, 1) := by decide +kernel
theorem dX8_flood_53 : decode cX8_flood 53 = .ok (.invokevirtual 435, 3) := by decide +kernel
theorem dX8_flood_56 : decode cX8_flood 56 = .ok (.ireturn, 1) := by decide +kernel
theorem dX8_flood_57 : decode cX8_flood 57 = .ok (.aload_n 0, 1) := by decide +kernel
theorem dX8_flood_58 : decode cX8_flood 58 = .ok (.invokevirtual 438, 3) := by decide +kernel
theorem dX8_flood_61 : decode cX8_flood 61 = .ok (.aload_n 0, 1) := by decide +kernel
theorem dX8_flood_62 : decode cX8_flood 62 = .ok (.getfield 79, 3) := by decide +kernel
theorem dX8_flood_65 : decode cX8_flood 65 = .ok (.aload_n 0, 1) := by decide +kernel
theorem dX8_flood_66 : decode cX8_flood 66 = .ok (.getfield 320, 3) := by decide +kernel
theorem dX8_flood_69 : decode cX8_flood 69 = .ok (.iload_n 1, 1) := by decide +kernel
theorem dX8_flood_70 : decode cX8_flood 70 = .ok (.iload_n 2, 1) := by decide +kernel
theorem dX8_flood_71 : decode cX8_flood 71 = .ok (.iload_n 3, 1) := by decide +kernel
theorem dX8_flood_72 : decode cX8_flood 72 = .ok (.invokestatic 443, 3) := by decide +kernel
theorem dX8_flood_75 : decode cX8_flood 75 = .ok (.aload_n 0, 1) := by decide +kernel
theorem dX8_flood_76 : decode cX8_flood 76 = .ok (.dup, 1) := by decide +kernel
theorem dX8_flood_77 : decode cX8_flood 77 = .ok (.getfield 320, 3) := by decide +kernel
theorem dX8_flood_80 : decode cX8_flood 80 = .ok (.iconst 1, 1) := by decide +kernel
theorem dX8_flood_81 : decode cX8_flood 81 = .ok (.iadd, 1) := by decide +kernel
theorem dX8_flood_82 : decode cX8_flood 82 = .ok (.putfield 320, 3) := by decide +kernel
theorem dX8_flood_85 : decode cX8_flood 85 = .ok (.aload_n 0, 1) := by decide +kernel
theorem dX8_flood_86 : decode cX8_flood 86 = .ok (.getfield 320, 3) := by decide +kernel
theorem dX8_flood_89 : decode cX8_flood 89 = .ok (.ireturn, 1) := by decide +kernel
theorem dX8_undo_0 : decode cX8_undo 0 = .ok (.aload_n 0, 1) := by decide +kernel
theorem dX8_undo_1 : decode cX8_undo 1 = .ok (.iconst 0, 1) := by decide +kernel
theorem dX8_undo_2 : decode cX8_undo 2 = .ok (.putfield 150, 3) := by decide +kernel
theorem dX8_undo_5 : decode cX8_undo 5 = .ok (.aload_n 0, 1) := by decide +kernel
theorem dX8_undo_6 : decode cX8_undo 6 = .ok (.getfield 323, 3) := by decide +kernel
theorem dX8_undo_9 : decode cX8_undo 9 = .ok (.ifCond .ne 5, 3) := by decide +kernel
theorem dX8_undo_12 : decode cX8_undo 12 = .ok (.iconst (-1), 1) := by decide +kernel
theorem dX8_undo_13 : decode cX8_undo 13 = .ok (.ireturn, 1) := by decide +kernel
theorem dX8_undo_14 : decode cX8_undo 14 = .ok (.aload_n 0, 1) := by decide +kernel
theorem dX8_undo_15 : decode cX8_undo 15 = .ok (.dup, 1) := by decide +kernel
theorem dX8_undo_16 : decode cX8_undo 16 = .ok (.getfield 323, 3) := by decide +kernel
theorem dX8_undo_19 : decode cX8_undo 19 = .ok (.iconst 1, 1) := by decide +kernel
theorem dX8_undo_20 : decode cX8_undo 20 = .ok (.isub, 1) := by decide +kernel
theorem dX8_undo_21 : decode cX8_undo 21 = .ok (.putfield 323, 3) := by decide +kernel
theorem dX8_undo_24 : decode cX8_undo 24 = .ok (.aload_n 0, 1) := by decide +kernel
theorem dX8_undo_25 : decode cX8_undo 25 = .ok (.aload_n 0, 1) := by decide +kernel
theorem dX8_undo_26 : decode cX8_undo 26 = .ok (.getfield 82, 3) := by decide +kernel
theorem dX8_undo_29 : decode cX8_undo 29 = .ok (.bipush 45, 2) := by decide +kernel
theorem dX8_undo_31 : decode cX8_undo 31 = .ok (.aload_n 0, 1) := by decide +kernel
theorem dX8_undo_32 : decode cX8_undo 32 = .ok (.getfield 323, 3) := by decide +kernel
theorem dX8_undo_35 : decode cX8_undo 35 = .ok (.imul, 1) := by decide +kernel
theorem dX8_undo_36 : decode cX8_undo 36 = .ok (.invokevirtual 449, 3) := by decide +kernel
theorem dX8_undo_39 : decode cX8_undo 39 = .ok (.aload_n 0, 1) := by decide +kernel
theorem dX8_undo_40 : decode cX8_undo 40 = .ok (.getfield 323, 3) := by decide +kernel
theorem dX8_undo_43 : decode cX8_undo 43 = .ok (.ireturn, 1) := by decide +kernel
theorem dX8_burn_0 : decode cX8_burn 0 = .ok (.aload_n 0, 1) := by decide +kernel
theorem dX8_burn_1 : decode cX8_burn 1 = .ok (.iconst 0, 1) := by decide +kernel
theorem dX8_burn_2 : decode cX8_burn 2 = .ok (.putfield 150, 3) := by decide +kernel
theorem dX8_burn_5 : decode cX8_burn 5 = .ok (.iload_n 1, 1) := by decide +kernel
theorem dX8_burn_6 : decode cX8_burn 6 = .ok (.ifCond .lt 8, 3) := by decide +kernel
theorem dX8_burn_9 : decode cX8_burn 9 = .ok (.iload_n 1, 1) := by decide +kernel
theorem dX8_burn_10 : decode cX8_burn 10 = .ok (.iconst 1, 1) := by decide +kernel
theorem dX8_burn_11 : decode cX8_burn 11 = .ok (.if_icmp .le 9, 3) := by decide +kernel
theorem dX8_burn_14 : decode cX8_burn 14 = .ok (.aload_n 0, 1) := by decide +kernel
theorem dX8_burn_15 : decode cX8_burn 15 = .ok (.iconst 1, 1) := by decide +kernel
theorem dX8_burn_16 : decode cX8_burn 16 = .ok (.invokevirtual 298, 3) := by decide +kernel
theorem dX8_burn_19 : decode cX8_burn 19 = .ok (.ireturn, 1) := by decide +kernel
theorem dX8_burn_20 : decode cX8_burn 20 = .ok (.aload_n 0, 1) := by decide +kernel
theorem dX8_burn_21 : decode cX8_burn 21 = .ok (.invokevirtual 404, 3) := by decide +kernel
theorem dX8_burn_24 : decode cX8_burn 24 = .ok (.iconst (-1), 1) := by decide +kernel
theorem dX8_burn_25 : decode cX8_burn 25 = .ok (.istore_n 2, 1) := by decide +kernel
theorem dX8_burn_26 : decode cX8_burn 26 = .ok (.iconst (-1), 1) := by decide +kernel
theorem dX8_burn_27 : decode cX8_burn 27 = .ok (.istore_n 3, 1) := by decide +kernel
theorem dX8_burn_28 : decode cX8_burn 28 = .ok (.iconst 0, 1) := by decide +kernel
theorem dX8_burn_29 : decode cX8_burn 29 = .ok (.istore 4, 2) := by decide +kernel
theorem dX8_burn_31 : decode cX8_burn 31 = .ok (.iload 4, 2) := by decide +kernel
theorem dX8_burn_33 : decode cX8_burn 33 = .ok (.aload_n 0, 1) := by decide +kernel
theorem dX8_burn_34 : decode cX8_burn 34 = .ok (.getfield 34, 3) := by decide +kernel
theorem dX8_burn_37 : decode cX8_burn 37 = .ok (.iconst 0, 1) := by decide +kernel
theorem dX8_burn_38 : decode cX8_burn 38 = .ok (.iaload, 1) := by decide +kernel
theorem dX8_burn_39 : decode cX8_burn 39 = .ok (.if_icmp .ge 71, 3) := by decide +kernel
theorem dX8_burn_42 : decode cX8_burn 42 = .ok (.aload_n 0, 1) := by decide +kernel
theorem dX8_burn_43 : decode cX8_burn 43 = .ok (.getfield 311, 3) := by decide +kernel
theorem dX8_burn_46 : decode cX8_burn 46 = .ok (.iload 4, 2) := by decide +kernel
theorem dX8_burn_48 : decode cX8_burn 48 = .ok (.ishr, 1) := by decide +kernel
theorem dX8_burn_49 : decode cX8_burn 49 = .ok (.iconst 1, 1) := by decide +kernel
theorem dX8_burn_50 : decode cX8_burn 50 = .ok (.iand, 1) := by decide +kernel
theorem dX8_burn_51 : decode cX8_burn 51 = .ok (.ifCond .ne 6, 3) := by decide +kernel
theorem dX8_burn_54 : decode cX8_burn 54 = .ok (.goto 50, 3) := by decide +kernel
theorem dX8_burn_57 : decode cX8_burn 57 = .ok (.aload_n 0, 1) := by decide +kernel
theorem dX8_burn_58 : decode cX8_burn 58 = .ok (.dup, 1) := by decide +kernel
theorem dX8_burn_59 : decode cX8_burn 59 = .ok (.getfield 311, 3) := by decide +kernel
theorem dX8_burn_62 : decode cX8_burn 62 = .ok (.iconst 1, 1) := by decide +kernel
theorem dX8_burn_63 : decode cX8_burn 63 = .ok (.iload 4, 2) := by decide +kernel
theorem dX8_burn_65 : decode cX8_burn 65 = .ok (.ishl, 1) := by decide +kernel
theorem dX8_burn_66 : decode cX8_burn 66 = .ok (.ixor, 1) := by decide +kernel
theorem dX8_burn_67 : decode cX8_burn 67 = .ok (.putfield 311, 3) := by decide +kernel
theorem dX8_burn_70 : decode cX8_burn 70 = .ok (.aload_n 0, 1) := by decide +kernel
theorem dX8_burn_71 : decode cX8_burn 71 = .ok (.invokevirtual 407, 3) := by decide +kernel
theorem dX8_burn_74 : decode cX8_burn 74 = .ok (.istore 5, 2) := by decide +kernel
theorem dX8_burn_76 : decode cX8_burn 76 = .ok (.aload_n 0, 1) := by decide +kernel
theorem dX8_burn_77 : decode cX8_burn 77 = .ok (.dup, 1) := by decide +kernel
theorem dX8_burn_78 : decode cX8_burn 78 = .ok (.getfield 311, 3) := by decide +kernel
theorem dX8_burn_81 : decode cX8_burn 81 = .ok (.iconst 1, 1) := by decide +kernel
theorem dX8_burn_82 : decode cX8_burn 82 = .ok (.iload 4, 2) := by decide +kernel
theorem dX8_burn_84 : decode cX8_burn 84 = .ok (.ishl, 1) := by decide +kernel
theorem dX8_burn_85 : decode cX8_burn 85 = .ok (.ixor, 1) := by decide +kernel
theorem dX8_burn_86 : decode cX8_burn 86 = .ok (.putfield 311, 3) := by decide +kernel
theorem dX8_burn_89 : decode cX8_burn 89 = .ok (.iload 5, 2) := by decide +kernel
theorem dX8_burn_91 : decode cX8_burn 91 = .ok (.iload_n 3, 1) := by decide +kernel
theorem dX8_burn_92 : decode cX8_burn 92 = .ok (.if_icmp .gt 6, 3) := by decide +kernel
theorem dX8_burn_95 : decode cX8_burn 95 = .ok (.goto 9, 3) := by decide +kernel
theorem dX8_burn_98 : decode cX8_burn 98 = .ok (.iload 4, 2) := by decide +kernel
theorem dX8_burn_100 : decode cX8_burn 100 = .ok (.istore_n 2, 1) := by decide +kernel
theorem dX8_burn_101 : decode cX8_burn 101 = .ok (.iload 5, 2) := by decide +kernel
theorem dX8_burn_103 : decode cX8_burn 103 = .ok (.istore_n 3, 1) := by decide +kernel
theorem dX8_burn_104 : decode cX8_burn 104 = .ok (.iinc 4 1, 3) := by decide +kernel
theorem dX8_burn_107 : decode cX8_burn 107 = .ok (.goto (-76), 3) := by decide +kernel
theorem dX8_burn_110 : decode cX8_burn 110 = .ok (.iload_n 1, 1) := by decide +kernel
theorem dX8_burn_111 : decode cX8_burn 111 = .ok (.ifCond .ne 7, 3) := by decide +kernel
theorem dX8_burn_114 : decode cX8_burn 114 = .ok (.iload_n 2, 1) := by decide +kernel
theorem dX8_burn_115 : decode cX8_burn 115 = .ok (.goto 4, 3) := by decide +kernel
theorem dX8_burn_118 : decode cX8_burn 118 = .ok (.iload_n 3, 1) := by decide +kernel
theorem dX8_burn_119 : decode cX8_burn 119 = .ok (.ireturn, 1) := by decide +kernel
theorem dX8_when_0 : decode cX8_when 0 = .ok (.aload_n 0, 1) := by decide +kernel
theorem dX8_when_1 : decode cX8_when 1 = .ok (.iconst 0, 1) := by decide +kernel
theorem dX8_when_2 : decode cX8_when 2 = .ok (.putfield 150, 3) := by decide +kernel
theorem dX8_when_5 : decode cX8_when 5 = .ok (.aload_n 0, 1) := by decide +kernel
theorem dX8_when_6 : decode cX8_when 6 = .ok (.iload_n 1, 1) := by decide +kernel
theorem dX8_when_7 : decode cX8_when 7 = .ok (.invokevirtual 419, 3) := by decide +kernel
theorem dX8_when_10 : decode cX8_when 10 = .ok (.ifCond .eq 12, 3) := by decide +kernel
theorem dX8_when_13 : decode cX8_when 13 = .ok (.iload_n 2, 1) := by decide +kernel
theorem dX8_when_14 : decode cX8_when 14 = .ok (.ifCond .lt 8, 3) := by decide +kernel
theorem dX8_when_17 : decode cX8_when 17 = .ok (.iload_n 2, 1) := by decide +kernel
theorem dX8_when_18 : decode cX8_when 18 = .ok (.iconst 1, 1) := by decide +kernel
theorem dX8_when_19 : decode cX8_when 19 = .ok (.if_icmp .le 9, 3) := by decide +kernel
theorem dX8_when_22 : decode cX8_when 22 = .ok (.aload_n 0, 1) := by decide +kernel
theorem dX8_when_23 : decode cX8_when 23 = .ok (.iconst 1, 1) := by decide +kernel
theorem dX8_when_24 : decode cX8_when 24 = .ok (.invokevirtual 298, 3) := by decide +kernel
theorem dX8_when_27 : decode cX8_when 27 = .ok (.ireturn, 1) := by decide +kernel
theorem dX8_when_28 : decode cX8_when 28 = .ok (.aload_n 0, 1) := by decide +kernel
theorem dX8_when_29 : decode cX8_when 29 = .ok (.invokevirtual 404, 3) := by decide +kernel
theorem dX8_when_32 : decode cX8_when 32 = .ok (.aload_n 0, 1) := by decide +kernel
theorem dX8_when_33 : decode cX8_when 33 = .ok (.getfield 44, 3) := by decide +kernel
theorem dX8_when_36 : decode cX8_when 36 = .ok (.iload_n 1, 1) := by decide +kernel
theorem dX8_when_37 : decode cX8_when 37 = .ok (.iaload, 1) := by decide +kernel
theorem dX8_when_38 : decode cX8_when 38 = .ok (.istore_n 3, 1) := by decide +kernel
theorem dX8_when_39 : decode cX8_when 39 = .ok (.iconst (-1), 1) := by decide +kernel
theorem dX8_when_40 : decode cX8_when 40 = .ok (.istore 4, 2) := by decide +kernel
theorem dX8_when_42 : decode cX8_when 42 = .ok (.iconst (-1), 1) := by decide +kernel
theorem dX8_when_43 : decode cX8_when 43 = .ok (.istore 5, 2) := by decide +kernel
theorem dX8_when_45 : decode cX8_when 45 = .ok (.iconst 0, 1) := by decide +kernel
theorem dX8_when_46 : decode cX8_when 46 = .ok (.istore 6, 2) := by decide +kernel
theorem dX8_when_48 : decode cX8_when 48 = .ok (.iload 6, 2) := by decide +kernel
theorem dX8_when_50 : decode cX8_when 50 = .ok (.bipush 60, 2) := by decide +kernel
theorem dX8_when_52 : decode cX8_when 52 = .ok (.if_icmp .gt 41, 3) := by decide +kernel
theorem dX8_when_55 : decode cX8_when 55 = .ok (.aload_n 0, 1) := by decide +kernel
theorem dX8_when_56 : decode cX8_when 56 = .ok (.getfield 44, 3) := by decide +kernel
theorem dX8_when_59 : decode cX8_when 59 = .ok (.iload_n 1, 1) := by decide +kernel
theorem dX8_when_60 : decode cX8_when 60 = .ok (.iload 6, 2) := by decide +kernel
theorem dX8_when_62 : decode cX8_when 62 = .ok (.iastore, 1) := by decide +kernel
theorem dX8_when_63 : decode cX8_when 63 = .ok (.aload_n 0, 1) := by decide +kernel
theorem dX8_when_64 : decode cX8_when 64 = .ok (.invokevirtual 407, 3) := by decide +kernel
theorem dX8_when_67 : decode cX8_when 67 = .ok (.istore 7, 2) := by decide +kernel
theorem dX8_when_69 : decode cX8_when 69 = .ok (.iload 7, 2) := by decide +kernel
theorem dX8_when_71 : decode cX8_when 71 = .ok (.iload 5, 2) := by decide +kernel
theorem dX8_when_73 : decode cX8_when 73 = .ok (.if_icmp .gt 6, 3) := by decide +kernel
theorem dX8_when_76 : decode cX8_when 76 = .ok (.goto 11, 3) := by decide +kernel
theorem dX8_when_79 : decode cX8_when 79 = .ok (.iload 6, 2) := by decide +kernel
theorem dX8_when_81 : decode cX8_when 81 = .ok (.istore 4, 2) := by decide +kernel
theorem dX8_when_83 : decode cX8_when 83 = .ok (.iload 7, 2) := by decide +kernel
theorem dX8_when_85 : decode cX8_when 85 = .ok (.istore 5, 2) := by decide +kernel
theorem dX8_when_87 : decode cX8_when 87 = .ok (.iinc 6 1, 3) := by decide +kernel
theorem dX8_when_90 : decode cX8_when 90 = .ok (.goto (-42), 3) := by decide +kernel
theorem dX8_when_93 : decode cX8_when 93 = .ok (.aload_n 0, 1) := by decide +kernel
theorem dX8_when_94 : decode cX8_when 94 = .ok (.getfield 44, 3) := by decide +kernel
theorem dX8_when_97 : decode cX8_when 97 = .ok (.iload_n 1, 1) := by decide +kernel
theorem dX8_when_98 : decode cX8_when 98 = .ok (.iload_n 3, 1) := by decide +kernel
theorem dX8_when_99 : decode cX8_when 99 = .ok (.iastore, 1) := by decide +kernel
theorem dX8_when_100 : decode cX8_when 100 = .ok (.iload_n 2, 1) := by decide +kernel
theorem dX8_when_101 : decode cX8_when 101 = .ok (.ifCond .ne 8, 3) := by decide +kernel
theorem dX8_when_104 : decode cX8_when 104 = .ok (.iload 4, 2) := by decide +kernel
theorem dX8_when_106 : decode cX8_when 106 = .ok (.goto 5, 3) := by decide +kernel
theorem dX8_when_109 : decode cX8_when 109 = .ok (.iload 5, 2) := by decide +kernel
theorem dX8_when_111 : decode cX8_when 111 = .ok (.ireturn, 1) := by decide +kernel
theorem dX8_round_0 : decode cX8_round 0 = .ok (.aload_n 0, 1) := by decide +kernel
theorem dX8_round_1 : decode cX8_round 1 = .ok (.iconst 0, 1) := by decide +kernel
theorem dX8_round_2 : decode cX8_round 2 = .ok (.putfield 150, 3) := by decide +kernel
theorem dX8_round_5 : decode cX8_round 5 = .ok (.aload_n 0, 1) := by decide +kernel
theorem dX8_round_6 : decode cX8_round 6 = .ok (.iload_n 1, 1) := by decide +kernel
theorem dX8_round_7 : decode cX8_round 7 = .ok (.invokevirtual 419, 3) := by decide +kernel
theorem dX8_round_10 : decode cX8_round 10 = .ok (.ifCond .ne 9, 3) := by decide +kernel
theorem dX8_round_13 : decode cX8_round 13 = .ok (.aload_n 0, 1) := by decide +kernel
theorem dX8_round_14 : decode cX8_round 14 = .ok (.iconst 1, 1) := by decide +kernel
theorem dX8_round_15 : decode cX8_round 15 = .ok (.invokevirtual 298, 3) := by decide +kernel
theorem dX8_round_18 : decode cX8_round 18 = .ok (.ireturn, 1) := by decide +kernel
theorem dX8_round_19 : decode cX8_round 19 = .ok (.aload_n 0, 1) := by decide +kernel
theorem dX8_round_20 : decode cX8_round 20 = .ok (.invokevirtual 410, 3) := by decide +kernel
theorem dX8_round_23 : decode cX8_round 23 = .ok (.istore_n 2, 1) := by decide +kernel
theorem dX8_round_24 : decode cX8_round 24 = .ok (.aload_n 0, 1) := by decide +kernel
theorem dX8_round_25 : decode cX8_round 25 = .ok (.iload_n 1, 1) := by decide +kernel
theorem dX8_round_26 : decode cX8_round 26 = .ok (.putfield 100, 3) := by decide +kernel
theorem dX8_round_29 : decode cX8_round 29 = .ok (.aload_n 0, 1) := by decide +kernel
theorem dX8_round_30 : decode cX8_round 30 = .ok (.invokevirtual 407, 3) := by decide +kernel
theorem dX8_round_33 : decode cX8_round 33 = .ok (.iload_n 2, 1) := by decide +kernel
theorem dX8_round_34 : decode cX8_round 34 = .ok (.isub, 1) := by decide +kernel
theorem dX8_round_35 : decode cX8_round 35 = .ok (.ireturn, 1) := by decide +kernel
theorem dX8_free_0 : decode cX8_free 0 = .ok (.aload_n 0, 1) := by decide +kernel
theorem dX8_free_1 : decode cX8_free 1 = .ok (.iconst 0, 1) := by decide +kernel
theorem dX8_free_2 : decode cX8_free 2 = .ok (.putfield 150, 3) := by decide +kernel
theorem dX8_free_5 : decode cX8_free 5 = .ok (.aload_n 0, 1) := by decide +kernel
theorem dX8_free_6 : decode cX8_free 6 = .ok (.iload_n 1, 1) := by decide +kernel
theorem dX8_free_7 : decode cX8_free 7 = .ok (.invokevirtual 424, 3) := by decide +kernel
theorem dX8_free_10 : decode cX8_free 10 = .ok (.ifCond .eq 12, 3) := by decide +kernel
theorem dX8_free_13 : decode cX8_free 13 = .ok (.iload_n 2, 1) := by decide +kernel
theorem dX8_free_14 : decode cX8_free 14 = .ok (.ifCond .lt 8, 3) := by decide +kernel
theorem dX8_free_17 : decode cX8_free 17 = .ok (.iload_n 2, 1) := by decide +kernel
theorem dX8_free_18 : decode cX8_free 18 = .ok (.iconst 1, 1) := by decide +kernel
theorem dX8_free_19 : decode cX8_free 19 = .ok (.if_icmp .le 9, 3) := by decide +kernel
theorem dX8_free_22 : decode cX8_free 22 = .ok (.aload_n 0, 1) := by decide +kernel
theorem dX8_free_23 : decode cX8_free 23 = .ok (.iconst 1, 1) := by decide +kernel
theorem dX8_free_24 : decode cX8_free 24 = .ok (.invokevirtual 298, 3) := by decide +kernel
theorem dX8_free_27 : decode cX8_free 27 = .ok (.ireturn, 1) := by decide +kernel
theorem dX8_free_28 : decode cX8_free 28 = .ok (.aload_n 0, 1) := by decide +kernel
theorem dX8_free_29 : decode cX8_free 29 = .ok (.invokevirtual 410, 3) := by decide +kernel
theorem dX8_free_32 : decode cX8_free 32 = .ok (.pop, 1) := by decide +kernel
theorem dX8_free_33 : decode cX8_free 33 = .ok (.aload_n 0, 1) := by decide +kernel
theorem dX8_free_34 : decode cX8_free 34 = .ok (.getfield 117, 3) := by decide +kernel
theorem dX8_free_37 : decode cX8_free 37 = .ok (.iload_n 1, 1) := by decide +kernel
theorem dX8_free_38 : decode cX8_free 38 = .ok (.iaload, 1) := by decide +kernel
theorem dX8_free_39 : decode cX8_free 39 = .ok (.ldc 186, 2) := by decide +kernel
theorem dX8_free_41 : decode cX8_free 41 = .ok (.if_icmp .lt 6, 3) := by decide +kernel
theorem dX8_free_44 : decode cX8_free 44 = .ok (.bipush (-2), 2) := by decide +kernel
theorem dX8_free_46 : decode cX8_free 46 = .ok (.ireturn, 1) := by decide +kernel
theorem dX8_free_47 : decode cX8_free 47 = .ok (.aload_n 0, 1) := by decide +kernel
theorem dX8_free_48 : decode cX8_free 48 = .ok (.dup, 1) := by decide +kernel
theorem dX8_free_49 : decode cX8_free 49 = .ok (.getfield 314, 3) := by decide +kernel
theorem dX8_free_52 : decode cX8_free 52 = .ok (.iconst 1, 1) := by decide +kernel
theorem dX8_free_53 : decode cX8_free 53 = .ok (.iadd, 1) := by decide +kernel
theorem dX8_free_54 : decode cX8_free 54 = .ok (.putfield 314, 3) := by decide +kernel
theorem dX8_free_57 : decode cX8_free 57 = .ok (.iconst (-1), 1) := by decide +kernel
theorem dX8_free_58 : decode cX8_free 58 = .ok (.istore_n 3, 1) := by decide +kernel
theorem dX8_free_59 : decode cX8_free 59 = .ok (.iconst 0, 1) := by decide +kernel
theorem dX8_free_60 : decode cX8_free 60 = .ok (.istore 4, 2) := by decide +kernel
theorem dX8_free_62 : decode cX8_free 62 = .ok (.iload 4, 2) := by decide +kernel
theorem dX8_free_64 : decode cX8_free 64 = .ok (.aload_n 0, 1) := by decide +kernel
theorem dX8_free_65 : decode cX8_free 65 = .ok (.getfield 34, 3) := by decide +kernel
theorem dX8_free_68 : decode cX8_free 68 = .ok (.iconst 0, 1) := by decide +kernel
theorem dX8_free_69 : decode cX8_free 69 = .ok (.iaload, 1) := by decide +kernel
theorem dX8_free_70 : decode cX8_free 70 = .ok (.bipush 61, 2) := by decide +kernel
theorem dX8_free_72 : decode cX8_free 72 = .ok (.imul, 1) := by decide +kernel
theorem dX8_free_73 : decode cX8_free 73 = .ok (.if_icmp .ge 69, 3) := by decide +kernel
theorem dX8_free_76 : decode cX8_free 76 = .ok (.iload_n 3, 1) := by decide +kernel
theorem dX8_free_77 : decode cX8_free 77 = .ok (.iconst (-1), 1) := by decide +kernel
theorem dX8_free_78 : decode cX8_free 78 = .ok (.if_icmp .ne 64, 3) := by decide +kernel
theorem dX8_free_81 : decode cX8_free 81 = .ok (.aload_n 0, 1) := by decide +kernel
theorem dX8_free_82 : decode cX8_free 82 = .ok (.getfield 73, 3) := by decide +kernel
theorem dX8_free_85 : decode cX8_free 85 = .ok (.aload_n 0, 1) := by decide +kernel
theorem dX8_free_86 : decode cX8_free 86 = .ok (.getfield 314, 3) := by decide +kernel
theorem dX8_free_89 : decode cX8_free 89 = .ok (.iconst 1, 1) := by decide +kernel
theorem dX8_free_90 : decode cX8_free 90 = .ok (.isub, 1) := by decide +kernel
theorem dX8_free_91 : decode cX8_free 91 = .ok (.iload_n 1, 1) := by decide +kernel
theorem dX8_free_92 : decode cX8_free 92 = .ok (.iload 4, 2) := by decide +kernel
theorem dX8_free_94 : decode cX8_free 94 = .ok (.aload_n 0, 1) := by decide +kernel
theorem dX8_free_95 : decode cX8_free 95 = .ok (.getfield 34, 3) := by decide +kernel
theorem dX8_free_98 : decode cX8_free 98 = .ok (.iconst 0, 1) := by decide +kernel
theorem dX8_free_99 : decode cX8_free 99 = .ok (.iaload, 1) := by decide +kernel
theorem dX8_free_100 : decode cX8_free 100 = .ok (.irem, 1) := by decide +kernel
theorem dX8_free_101 : decode cX8_free 101 = .ok (.iload 4, 2) := by decide +kernel
theorem dX8_free_103 : decode cX8_free 103 = .ok (.aload_n 0, 1) := by decide +kernel
theorem dX8_free_104 : decode cX8_free 104 = .ok (.getfield 34, 3) := by decide +kernel
theorem dX8_free_107 : decode cX8_free 107 = .ok (.iconst 0, 1) := by decide +kernel
theorem dX8_free_108 : decode cX8_free 108 = .ok (.iaload, 1) := by decide +kernel
theorem dX8_free_109 : decode cX8_free 109 = .ok (.idiv, 1) := by decide +kernel
theorem dX8_free_110 : decode cX8_free 110 = .ok (.invokestatic 443, 3) := by decide +kernel
theorem dX8_free_113 : decode cX8_free 113 = .ok (.aload_n 0, 1) := by decide +kernel
theorem dX8_free_114 : decode cX8_free 114 = .ok (.iload_n 1, 1) := by decide +kernel
theorem dX8_free_115 : decode cX8_free 115 = .ok (.invokevirtual 401, 3) := by decide +kernel
theorem dX8_free_118 : decode cX8_free 118 = .ok (.aload_n 0, 1) := by decide +kernel
theorem dX8_free_119 : decode cX8_free 119 = .ok (.getfield 117, 3) := by decide +kernel
theorem dX8_free_122 : decode cX8_free 122 = .ok (.iload_n 1, 1) := by decide +kernel
theorem dX8_free_123 : decode cX8_free 123 = .ok (.iaload, 1) := by decide +kernel
theorem dX8_free_124 : decode cX8_free 124 = .ok (.ldc 186, 2) := by decide +kernel
theorem dX8_free_126 : decode cX8_free 126 = .ok (.if_icmp .lt 8, 3) := by decide +kernel
theorem dX8_free_129 : decode cX8_free 129 = .ok (.iload 4, 2) := by decide +kernel
theorem dX8_free_131 : decode cX8_free 131 = .ok (.goto 4, 3) := by decide +kernel
theorem dX8_free_134 : decode cX8_free 134 = .ok (.iconst (-1), 1) := by decide +kernel
theorem dX8_free_135 : decode cX8_free 135 = .ok (.istore_n 3, 1) := by decide +kernel
theorem dX8_free_136 : decode cX8_free 136 = .ok (.iinc 4 1, 3) := by decide +kernel
theorem dX8_free_139 : decode cX8_free 139 = .ok (.goto (-77), 3) := by decide +kernel
theorem dX8_free_142 : decode cX8_free 142 = .ok (.aload_n 0, 1) := by decide +kernel
theorem dX8_free_143 : decode cX8_free 143 = .ok (.dup, 1) := by decide +kernel
theorem dX8_free_144 : decode cX8_free 144 = .ok (.getfield 314, 3) := by decide +kernel
theorem dX8_free_147 : decode cX8_free 147 = .ok (.iconst 1, 1) := by decide +kernel
theorem dX8_free_148 : decode cX8_free 148 = .ok (.isub, 1) := by decide +kernel
theorem dX8_free_149 : decode cX8_free 149 = .ok (.putfield 314, 3) := by decide +kernel
theorem dX8_free_152 : decode cX8_free 152 = .ok (.iload_n 3, 1) := by decide +kernel
theorem dX8_free_153 : decode cX8_free 153 = .ok (.iconst (-1), 1) := by decide +kernel
theorem dX8_free_154 : decode cX8_free 154 = .ok (.if_icmp .ne 7, 3) := by decide +kernel
theorem dX8_free_157 : decode cX8_free 157 = .ok (.iconst (-1), 1) := by decide +kernel
theorem dX8_free_158 : decode cX8_free 158 = .ok (.goto 26, 3) := by decide +kernel
theorem dX8_free_161 : decode cX8_free 161 = .ok (.iload_n 2, 1) := by decide +kernel
theorem dX8_free_162 : decode cX8_free 162 = .ok (.ifCond .ne 14, 3) := by decide +kernel
theorem dX8_free_165 : decode cX8_free 165 = .ok (.iload_n 3, 1) := by decide +kernel
theorem dX8_free_166 : decode cX8_free 166 = .ok (.aload_n 0, 1) := by decide +kernel
theorem dX8_free_167 : decode cX8_free 167 = .ok (.getfield 34, 3) := by decide +kernel
theorem dX8_free_170 : decode cX8_free 170 = .ok (.iconst 0, 1) := by decide +kernel
theorem dX8_free_171 : decode cX8_free 171 = .ok (.iaload, 1) := by decide +kernel
theorem dX8_free_172 : decode cX8_free 172 = .ok (.idiv, 1) := by decide +kernel
theorem dX8_free_173 : decode cX8_free 173 = .ok (.goto 11, 3) := by decide +kernel
theorem dX8_free_176 : decode cX8_free 176 = .ok (.iload_n 3, 1) := by decide +kernel
theorem dX8_free_177 : decode cX8_free 177 = .ok (.aload_n 0, 1) := by decide +kernel
theorem dX8_free_178 : decode cX8_free 178 = .ok (.getfield 34, 3) := by decide +kernel
theorem dX8_free_181 : decode cX8_free 181 = .ok (.iconst 0, 1) := by decide +kernel
theorem dX8_free_182 : decode cX8_free 182 = .ok (.iaload, 1) := by decide +kernel
theorem dX8_free_183 : decode cX8_free 183 = .ok (.irem, 1) := by decide +kernel
theorem dX8_free_184 : decode cX8_free 184 = .ok (.ireturn, 1) := by decide +kernel
def f_X8_start   (I : Mem) (v1 : Int32) (v2 : Int32) : Option (Int32 × Mem) :=
  bnd (upd4 I 8 0 0 2 (0 : Int32)) fun I1' =>
  (f_X8_isJudge I1' v1).bind fun y1 =>
  if y1 = 0 then ((f_X8_fail I1' (1 : Int32)).bind fun y5 =>
  some (y5.1, y5.2)) else ((f_X8_isIn I1' v2.toInt64 (0 : Int64) (60 : Int64)).bind fun y2 =>
  if y2 = 0 then ((f_X8_refuse I1' (1 : Int32)).bind fun y4 =>
  some (y4.1, y4.2)) else ((f_X8_keep I1').bind fun y3 =>
  gd (inb v1 10) <|
  bnd (y3 53 0 0 v1.toNatClampNeg) fun x1 =>
  bnd (upd4 y3 53 0 0 v1.toNatClampNeg v2) fun I2' =>
  some (x1, I2')))
theorem b_X8_start (X : CX) (Q : State → Prop) {I : Mem} {P : PMem} {O : Nat → Int64} {D : Bool} {n : Nat} {v1 : Int32} {v2 : Int32} {r : (Int32 × Mem)}  (h : f_X8_start I v1 v2 = some r) (E : EndR X cX8_start RX8 4 (some .int) 4 n (some (.inl r.1)) r.2 P O D Q) : Here X cX8_start RX8 4 (some .int) 4 n 0 [some (.inr (.inr (8, 0, 0))), some (.inl v1), some (.inl v2), none] [] I P O D n Q := by
  unfold f_X8_start at h
  refine h_aload_n dX8_start_0 rfl ?_
  refine h_iconst (0 : Int32) dX8_start_1 k_iconst_0 ?_
  obtain ⟨I1', e1, h⟩ := bnd_some h
  refine p_X8_150  dX8_start_2 ?_
  refine h_nmI e1 ?_
  refine h_aload_n dX8_start_5 rfl ?_
  refine h_iload_n dX8_start_6 rfl ?_
  obtain ⟨y1, hh1, h⟩ := obd_some h
  refine h_cVi [.inl v1] (m_X8_isJudge  hh1) cw_X8_419 dX8_start_7 rfl ok_8 (by decide) rfl (Or.inr rfl) rfl ?_
  refine h_if_ne (tgt := 19) dX8_start_10 (by decide) (fun q1 => ?_) (fun q1 => ?_)
  · rw [if_neg q1] at h
    refine h_iload_n dX8_start_19 rfl ?_
    refine h_i2l dX8_start_20 ?_
    refine h_lconst 0 dX8_start_21 rfl ?_
    refine h_ldc2 60 dX8_start_22 kl_X8_433 ?_
    obtain ⟨y2, hh2, h⟩ := obd_some h
    refine h_cSi [.inr (.inl v2.toInt64), .inr (.inl (0 : Int64)), .inr (.inl (60 : Int64))] (m_X8_isIn  hh2) cs_X8_153 dX8_start_25 rfl (by decide) rfl (Or.inr rfl) rfl ?_
    refine h_if_ne (tgt := 37) dX8_start_28 (by decide) (fun q2 => ?_) (fun q2 => ?_)
    · rw [if_neg q2] at h
      refine h_aload_n dX8_start_37 rfl ?_
      obtain ⟨y3, hh3, h⟩ := obd_some h
      refine h_cVv [] (m_X8_keep  hh3) cw_X8_438 dX8_start_38 rfl ok_8 (by decide) rfl (Or.inr rfl) rfl ?_
      refine h_aload_n dX8_start_41 rfl ?_
      refine g_X8_44  dX8_start_42 ?_
      refine h_iload_n dX8_start_45 rfl ?_
      obtain ⟨g1, h⟩ := gd_some h
      refine al_53  v1.toNatClampNeg rfl dX8_start_46 g1 ?_
      obtain ⟨x1, e2, h⟩ := bnd_some h
      refine h_nmv e2 ?_
      refine h_istore_n dX8_start_47 (by decide) rfl ?_
      refine h_aload_n dX8_start_48 rfl ?_
      refine g_X8_44  dX8_start_49 ?_
      refine h_iload_n dX8_start_52 rfl ?_
      refine h_iload_n dX8_start_53 rfl ?_
      obtain ⟨I2', e3, h⟩ := bnd_some h
      refine as_53  v1.toNatClampNeg rfl dX8_start_54 g1 ?_
      refine h_nmI e3 ?_
      refine h_iload_n dX8_start_55 rfl ?_
      cases h
      exact h_iret dX8_start_56 rfl E
    · rw [if_pos q2] at h
      refine h_aload_n dX8_start_31 rfl ?_
      refine h_iconst (1 : Int32) dX8_start_32 k_iconst_1 ?_
      obtain ⟨y4, hh4, h⟩ := obd_some h
      refine h_cVi [.inl (1 : Int32)] (m_X8_refuse  hh4) cw_X8_435 dX8_start_33 rfl ok_8 (by decide) rfl (Or.inr rfl) rfl ?_
      cases h
      exact h_iret dX8_start_36 rfl E
  · rw [if_pos q1] at h
    refine h_aload_n dX8_start_13 rfl ?_
    refine h_iconst (1 : Int32) dX8_start_14 k_iconst_1 ?_
    obtain ⟨y5, hh5, h⟩ := obd_some h
    refine h_cVi [.inl (1 : Int32)] (m_X8_fail  hh5) cw_X8_298 dX8_start_15 rfl ok_8 (by decide) rfl (Or.inr rfl) rfl ?_
    cases h
    exact h_iret dX8_start_18 rfl E
theorem m_X8_start {I : Mem} {P : PMem} {O : Nat → Int64} {D : Bool} {n : Nat} {v1 : Int32} {v2 : Int32} {r : (Int32 × Mem)}  (h : f_X8_start I v1 v2 = some r) : MethR yX8_start cX8_start 4 (some .int) 4 [.inr (.inr (8, 0, 0)), .inl v1, .inl v2] I P O D n (some (.inl r.1)) r.2 P O D n := meth_R (Nat.le_refl _) (by decide) rfl (Nat.le_of_ble_eq_true rfl) rfl (fun X Q E => b_X8_start X Q  h E)
def f_X8_inn_37   (I : Mem) (v1 : Int32) (s0 : Int32) (s1 : Int32) : Option (Int32 × Mem) :=
  if s1 = s0 then (bnd (upd4 I 59 0 0 1 ((I 59 0 0 1) + (1 : Int32))) fun I2' =>
  some ((0 : Int32), I2')) else ((f_X8_keep I).bind fun y1 =>
  bnd (upd4 y1 8 0 0 29 ((y1 8 0 0 29) ^^^ (jshl (1 : Int32) v1))) fun I1' =>
  some ((1 : Int32), I1'))
theorem b_X8_inn_37 (X : CX) (Q : State → Prop) {I : Mem} {P : PMem} {O : Nat → Int64} {D : Bool} {n : Nat} {v1 : Int32} {s0 : Int32} {s1 : Int32} {r : (Int32 × Mem)}  (h : f_X8_inn_37 I v1 s0 s1 = some r) (E : EndR X cX8_inn RX8 3 (some .boolean) 4 n (some (.inl r.1)) r.2 P O D Q) : Here X cX8_inn RX8 3 (some .boolean) 4 n 37 [some (.inr (.inr (8, 0, 0))), some (.inl v1), none] [.inl s0, .inl s1] I P O D n Q := by
  unfold f_X8_inn_37 at h
  refine h_icmp_ne (tgt := 52) dX8_inn_37 (by decide) (fun q1 => ?_) (fun q1 => ?_)
  · rw [if_neg q1] at h
    refine h_aload_n dX8_inn_52 rfl ?_
    obtain ⟨y1, hh1, h⟩ := obd_some h
    refine h_cVv [] (m_X8_keep  hh1) cw_X8_438 dX8_inn_53 rfl ok_8 (by decide) rfl (Or.inr rfl) rfl ?_
    refine h_aload_n dX8_inn_56 rfl ?_
    refine h_dup dX8_inn_57 (fun _ => rfl) ?_
    refine g_X8_311  dX8_inn_58 ?_
    refine h_iconst (1 : Int32) dX8_inn_61 k_iconst_1 ?_
    refine h_iload_n dX8_inn_62 rfl ?_
    refine h_shl dX8_inn_63 ?_
    refine h_ixor dX8_inn_64 ?_
    obtain ⟨I1', e1, h⟩ := bnd_some h
    refine p_X8_311  dX8_inn_65 ?_
    refine h_nmI e1 ?_
    refine h_iconst (1 : Int32) dX8_inn_68 k_iconst_1 ?_
    cases h
    exact h_zret dX8_inn_69 rfl rfl E
  · rw [if_pos q1] at h
    refine h_aload_n dX8_inn_40 rfl ?_
    refine g_X8_60  dX8_inn_41 ?_
    refine h_iconst (1 : Int32) dX8_inn_44 k_iconst_1 ?_
    refine h_dup2 dX8_inn_45 (fun _ => rfl) (fun _ => rfl) ?_
    refine al_59  1 cl_1 dX8_inn_46 rfl ?_
    refine h_iconst (1 : Int32) dX8_inn_47 k_iconst_1 ?_
    refine h_iadd dX8_inn_48 ?_
    obtain ⟨I2', e2, h⟩ := bnd_some h
    refine as_59  1 cl_1 dX8_inn_49 rfl ?_
    refine h_nmI e2 ?_
    refine h_iconst (0 : Int32) dX8_inn_50 k_iconst_0 ?_
    cases h
    exact h_zret dX8_inn_51 rfl rfl E
def f_X8_inn   (I : Mem) (v1 : Int32) (v2 : Int32) : Option (Int32 × Mem) :=
  bnd (upd4 I 8 0 0 2 (0 : Int32)) fun I1' =>
  (f_X8_isTown I1' v1).bind fun y1 =>
  if y1 = 0 then (bnd (upd4 I1' 8 0 0 2 (1 : Int32)) fun I2' =>
  some ((0 : Int32), I2')) else (if v2 = 0 then (f_X8_inn_37 I1' v1 (0 : Int32) ((jshr (I1' 8 0 0 29) v1) &&& (1 : Int32))) else (f_X8_inn_37 I1' v1 (1 : Int32) ((jshr (I1' 8 0 0 29) v1) &&& (1 : Int32))))
theorem b_X8_inn (X : CX) (Q : State → Prop) {I : Mem} {P : PMem} {O : Nat → Int64} {D : Bool} {n : Nat} {v1 : Int32} {v2 : Int32} {r : (Int32 × Mem)}  (h : f_X8_inn I v1 v2 = some r) (E : EndR X cX8_inn RX8 3 (some .boolean) 4 n (some (.inl r.1)) r.2 P O D Q) : Here X cX8_inn RX8 3 (some .boolean) 4 n 0 [some (.inr (.inr (8, 0, 0))), some (.inl v1), some (.inl v2)] [] I P O D n Q := by
  unfold f_X8_inn at h
  refine h_aload_n dX8_inn_0 rfl ?_
  refine h_iconst (0 : Int32) dX8_inn_1 k_iconst_0 ?_
  obtain ⟨I1', e1, h⟩ := bnd_some h
  refine p_X8_150  dX8_inn_2 ?_
  refine h_nmI e1 ?_
  refine h_aload_n dX8_inn_5 rfl ?_
  refine h_iload_n dX8_inn_6 rfl ?_
  obtain ⟨y1, hh1, h⟩ := obd_some h
  refine h_cVi [.inl v1] (m_X8_isTown  hh1) cw_X8_413 dX8_inn_7 rfl ok_8 (by decide) rfl (Or.inr rfl) rfl ?_
  refine h_if_ne (tgt := 20) dX8_inn_10 (by decide) (fun q1 => ?_) (fun q1 => ?_)
  · rw [if_neg q1] at h
    refine h_aload_n dX8_inn_20 rfl ?_
    refine g_X8_311  dX8_inn_21 ?_
    refine h_iload_n dX8_inn_24 rfl ?_
    refine h_shr dX8_inn_25 ?_
    refine h_iconst (1 : Int32) dX8_inn_26 k_iconst_1 ?_
    refine h_iand dX8_inn_27 ?_
    refine h_iload_n dX8_inn_28 rfl ?_
    refine h_if_eq (tgt := 36) dX8_inn_29 (by decide) (fun q2 => ?_) (fun q2 => ?_)
    · rw [if_pos q2] at h
      refine h_iconst (0 : Int32) dX8_inn_36 k_iconst_0 ?_
      exact h_mask [true, true, false] (b_X8_inn_37 X Q  h E)
    · rw [if_neg q2] at h
      refine h_iconst (1 : Int32) dX8_inn_32 k_iconst_1 ?_
      refine h_goto (tgt := 37) dX8_inn_33 (by decide) ?_
      exact h_mask [true, true, false] (b_X8_inn_37 X Q  h E)
  · rw [if_pos q1] at h
    refine h_aload_n dX8_inn_13 rfl ?_
    refine h_iconst (1 : Int32) dX8_inn_14 k_iconst_1 ?_
    obtain ⟨I2', e2, h⟩ := bnd_some h
    refine p_X8_150  dX8_inn_15 ?_
    refine h_nmI e2 ?_
    refine h_iconst (0 : Int32) dX8_inn_18 k_iconst_0 ?_
    cases h
    exact h_zret dX8_inn_19 rfl rfl E
theorem m_X8_inn {I : Mem} {P : PMem} {O : Nat → Int64} {D : Bool} {n : Nat} {v1 : Int32} {v2 : Int32} {r : (Int32 × Mem)}  (h : f_X8_inn I v1 v2 = some r) : MethR yX8_inn cX8_inn 3 (some .boolean) 4 [.inr (.inr (8, 0, 0)), .inl v1, .inl v2] I P O D n (some (.inl r.1)) r.2 P O D n := meth_R (Nat.le_refl _) (by decide) rfl (Nat.le_of_ble_eq_true rfl) rfl (fun X Q E => b_X8_inn X Q  h E)
def f_X8_putRow  (c0 : Nat) (z0 : Nat) (r0 : Nat) (I : Mem) (v1 : Int32) (v2 : Int32) (v3 : Int32) (v4 : Int32) : Option (Mem) :=
  gd (inb ((3 : Int32) * v1) (cL c0 z0)) <|
  bnd (upd4 I c0 z0 r0 (((3 : Int32) * v1).toNatClampNeg) v2) fun I1' =>
  gd (inb (((3 : Int32) * v1) + (1 : Int32)) (cL c0 z0)) <|
  bnd (upd4 I1' c0 z0 r0 ((((3 : Int32) * v1) + (1 : Int32)).toNatClampNeg) v3) fun I2' =>
  gd (inb (((3 : Int32) * v1) + (2 : Int32)) (cL c0 z0)) <|
  bnd (upd4 I2' c0 z0 r0 ((((3 : Int32) * v1) + (2 : Int32)).toNatClampNeg) v4) fun I3' =>
  some I3'
theorem b_X8_putRow (X : CX) (Q : State → Prop) {I : Mem} {P : PMem} {O : Nat → Int64} {D : Bool} {n : Nat} {c0 : Nat} {z0 : Nat} {r0 : Nat} {v1 : Int32} {v2 : Int32} {v3 : Int32} {v4 : Int32} {r : (Mem)}  (hc0 : iaOK c0 z0 r0 = true) (h : f_X8_putRow c0 z0 r0 I v1 v2 v3 v4 = some r) (E : EndR X cX8_putRow RX8 5 (none) 2 n none r P O D Q) : Here X cX8_putRow RX8 5 (none) 2 n 0 [some (.inr (.inr (c0, z0, r0))), some (.inl v1), some (.inl v2), some (.inl v3), some (.inl v4)] [] I P O D n Q := by
  unfold f_X8_putRow at h
  refine h_aload_n dX8_putRow_0 rfl ?_
  refine h_iconst (3 : Int32) dX8_putRow_1 k_iconst_3 ?_
  refine h_iload_n dX8_putRow_2 rfl ?_
  refine h_imul dX8_putRow_3 ?_
  refine h_iload_n dX8_putRow_4 rfl ?_
  obtain ⟨g1, h⟩ := gd_some h
  obtain ⟨I1', e1, h⟩ := bnd_some h
  refine as_v hc0 (((3 : Int32) * v1).toNatClampNeg) rfl dX8_putRow_5 g1 ?_
  refine h_nmI e1 ?_
  refine h_aload_n dX8_putRow_6 rfl ?_
  refine h_iconst (3 : Int32) dX8_putRow_7 k_iconst_3 ?_
  refine h_iload_n dX8_putRow_8 rfl ?_
  refine h_imul dX8_putRow_9 ?_
  refine h_iconst (1 : Int32) dX8_putRow_10 k_iconst_1 ?_
  refine h_iadd dX8_putRow_11 ?_
  refine h_iload_n dX8_putRow_12 rfl ?_
  obtain ⟨g2, h⟩ := gd_some h
  obtain ⟨I2', e2, h⟩ := bnd_some h
  refine as_v hc0 ((((3 : Int32) * v1) + (1 : Int32)).toNatClampNeg) rfl dX8_putRow_13 g2 ?_
  refine h_nmI e2 ?_
  refine h_aload_n dX8_putRow_14 rfl ?_
  refine h_iconst (3 : Int32) dX8_putRow_15 k_iconst_3 ?_
  refine h_iload_n dX8_putRow_16 rfl ?_
  refine h_imul dX8_putRow_17 ?_
  refine h_iconst (2 : Int32) dX8_putRow_18 k_iconst_2 ?_
  refine h_iadd dX8_putRow_19 ?_
  refine h_iload dX8_putRow_20 rfl ?_
  obtain ⟨g3, h⟩ := gd_some h
  obtain ⟨I3', e3, h⟩ := bnd_some h
  refine as_v hc0 ((((3 : Int32) * v1) + (2 : Int32)).toNatClampNeg) rfl dX8_putRow_22 g3 ?_
  refine h_nmI e3 ?_
  cases h
  exact h_vret dX8_putRow_23 rfl E
theorem m_X8_putRow {I : Mem} {P : PMem} {O : Nat → Int64} {D : Bool} {n : Nat} {c0 : Nat} {z0 : Nat} {r0 : Nat} {v1 : Int32} {v2 : Int32} {v3 : Int32} {v4 : Int32} {r : (Mem)} (hc0 : iaOK c0 z0 r0 = true) (h : f_X8_putRow c0 z0 r0 I v1 v2 v3 v4 = some r) : MethR yX8_putRow cX8_putRow 5 (none) 2 [.inr (.inr (c0, z0, r0)), .inl v1, .inl v2, .inl v3, .inl v4] I P O D n none r P O D n := meth_R (Nat.le_refl _) (by decide) rfl (Nat.le_of_ble_eq_true rfl) rfl (fun X Q E => b_X8_putRow X Q hc0 h E)
def f_X8_word_47   (I : Mem) : Option (Int32 × Mem) :=
  (f_X8_refuse I (1 : Int32)).bind fun y1 =>
  some (y1.1, y1.2)
theorem b_X8_word_47 (X : CX) (Q : State → Prop) {I : Mem} {P : PMem} {O : Nat → Int64} {D : Bool} {n : Nat} {r : (Int32 × Mem)}  (h : f_X8_word_47 I = some r) (E : EndR X cX8_word RX8 4 (some .int) 4 n (some (.inl r.1)) r.2 P O D Q) : Here X cX8_word RX8 4 (some .int) 4 n 47 [some (.inr (.inr (8, 0, 0))), none, none, none] [] I P O D n Q := by
  unfold f_X8_word_47 at h
  refine h_aload_n dX8_word_47 rfl ?_
  refine h_iconst (1 : Int32) dX8_word_48 k_iconst_1 ?_
  obtain ⟨y1, hh1, h⟩ := obd_some h
  refine h_cVi [.inl (1 : Int32)] (m_X8_refuse  hh1) cw_X8_435 dX8_word_49 rfl ok_8 (by decide) rfl (Or.inr rfl) rfl ?_
  cases h
  exact h_iret dX8_word_52 rfl E
def f_X8_word_21   (I : Mem) : Option (Int32 × Mem) :=
  (f_X8_fail I (1 : Int32)).bind fun y1 =>
  some (y1.1, y1.2)
theorem b_X8_word_21 (X : CX) (Q : State → Prop) {I : Mem} {P : PMem} {O : Nat → Int64} {D : Bool} {n : Nat} {r : (Int32 × Mem)}  (h : f_X8_word_21 I = some r) (E : EndR X cX8_word RX8 4 (some .int) 4 n (some (.inl r.1)) r.2 P O D Q) : Here X cX8_word RX8 4 (some .int) 4 n 21 [some (.inr (.inr (8, 0, 0))), none, none, none] [] I P O D n Q := by
  unfold f_X8_word_21 at h
  refine h_aload_n dX8_word_21 rfl ?_
  refine h_iconst (1 : Int32) dX8_word_22 k_iconst_1 ?_
  obtain ⟨y1, hh1, h⟩ := obd_some h
  refine h_cVi [.inl (1 : Int32)] (m_X8_fail  hh1) cw_X8_298 dX8_word_23 rfl ok_8 (by decide) rfl (Or.inr rfl) rfl ?_
  cases h
  exact h_iret dX8_word_26 rfl E
def f_X8_word   (I : Mem) (v1 : Int32) (v2 : Int32) (v3 : Int32) : Option (Int32 × Mem) :=
  bnd (upd4 I 8 0 0 2 (0 : Int32)) fun I1' =>
  (f_X8_isCase I1' v1).bind fun y1 =>
  if y1 = 0 then (f_X8_word_21 I1') else ((f_X8_isTown I1' v2).bind fun y2 =>
  if y2 = 0 then (f_X8_word_21 I1') else (if (I1' 8 0 0 30) = (4 : Int32) then (f_X8_word_47 I1') else ((f_X8_isIn I1' v3.toInt64 (0 : Int64) (99 : Int64)).bind fun y3 =>
  if y3 = 0 then (f_X8_word_47 I1') else ((f_X8_keep I1').bind fun y4 =>
  (f_X8_putRow 62 0 0 y4 (y4 8 0 0 30) v1 v2 v3).bind fun y5 =>
  bnd (upd4 y5 8 0 0 30 ((y5 8 0 0 30) + (1 : Int32))) fun I2' =>
  some ((I2' 8 0 0 30), I2')))))
theorem b_X8_word (X : CX) (Q : State → Prop) {I : Mem} {P : PMem} {O : Nat → Int64} {D : Bool} {n : Nat} {v1 : Int32} {v2 : Int32} {v3 : Int32} {r : (Int32 × Mem)}  (h : f_X8_word I v1 v2 v3 = some r) (E : EndR X cX8_word RX8 4 (some .int) 4 n (some (.inl r.1)) r.2 P O D Q) : Here X cX8_word RX8 4 (some .int) 4 n 0 [some (.inr (.inr (8, 0, 0))), some (.inl v1), some (.inl v2), some (.inl v3)] [] I P O D n Q := by
  unfold f_X8_word at h
  refine h_aload_n dX8_word_0 rfl ?_
  refine h_iconst (0 : Int32) dX8_word_1 k_iconst_0 ?_
  obtain ⟨I1', e1, h⟩ := bnd_some h
  refine p_X8_150  dX8_word_2 ?_
  refine h_nmI e1 ?_
  refine h_aload_n dX8_word_5 rfl ?_
  refine h_iload_n dX8_word_6 rfl ?_
  obtain ⟨y1, hh1, h⟩ := obd_some h
  refine h_cVi [.inl v1] (m_X8_isCase  hh1) cw_X8_424 dX8_word_7 rfl ok_8 (by decide) rfl (Or.inr rfl) rfl ?_
  refine h_if_eq (tgt := 21) dX8_word_10 (by decide) (fun q1 => ?_) (fun q1 => ?_)
  · rw [if_pos q1] at h
    exact h_mask [true, false, false, false] (b_X8_word_21 X Q  h E)
  · rw [if_neg q1] at h
    refine h_aload_n dX8_word_13 rfl ?_
    refine h_iload_n dX8_word_14 rfl ?_
    obtain ⟨y2, hh2, h⟩ := obd_some h
    refine h_cVi [.inl v2] (m_X8_isTown  hh2) cw_X8_413 dX8_word_15 rfl ok_8 (by decide) rfl (Or.inr rfl) rfl ?_
    refine h_if_ne (tgt := 27) dX8_word_18 (by decide) (fun q2 => ?_) (fun q2 => ?_)
    · rw [if_neg q2] at h
      refine h_aload_n dX8_word_27 rfl ?_
      refine g_X8_314  dX8_word_28 ?_
      refine h_iconst (4 : Int32) dX8_word_31 k_iconst_4 ?_
      refine h_icmp_eq (tgt := 47) dX8_word_32 (by decide) (fun q3 => ?_) (fun q3 => ?_)
      · rw [if_pos q3] at h
        exact h_mask [true, false, false, false] (b_X8_word_47 X Q  h E)
      · rw [if_neg q3] at h
        refine h_iload_n dX8_word_35 rfl ?_
        refine h_i2l dX8_word_36 ?_
        refine h_lconst 0 dX8_word_37 rfl ?_
        refine h_ldc2 99 dX8_word_38 kl_X8_441 ?_
        obtain ⟨y3, hh3, h⟩ := obd_some h
        refine h_cSi [.inr (.inl v3.toInt64), .inr (.inl (0 : Int64)), .inr (.inl (99 : Int64))] (m_X8_isIn  hh3) cs_X8_153 dX8_word_41 rfl (by decide) rfl (Or.inr rfl) rfl ?_
        refine h_if_ne (tgt := 53) dX8_word_44 (by decide) (fun q4 => ?_) (fun q4 => ?_)
        · rw [if_neg q4] at h
          refine h_aload_n dX8_word_53 rfl ?_
          obtain ⟨y4, hh4, h⟩ := obd_some h
          refine h_cVv [] (m_X8_keep  hh4) cw_X8_438 dX8_word_54 rfl ok_8 (by decide) rfl (Or.inr rfl) rfl ?_
          refine h_aload_n dX8_word_57 rfl ?_
          refine g_X8_73  dX8_word_58 ?_
          refine h_aload_n dX8_word_61 rfl ?_
          refine g_X8_314  dX8_word_62 ?_
          refine h_iload_n dX8_word_65 rfl ?_
          refine h_iload_n dX8_word_66 rfl ?_
          refine h_iload_n dX8_word_67 rfl ?_
          obtain ⟨y5, hh5, h⟩ := obd_some h
          refine h_cSv [.inr (.inr (62, 0, 0)), .inl (y4 8 0 0 30), .inl v1, .inl v2, .inl v3] (m_X8_putRow rfl hh5) cs_X8_443 dX8_word_68 rfl (by decide) rfl (Or.inr rfl) rfl ?_
          refine h_aload_n dX8_word_71 rfl ?_
          refine h_dup dX8_word_72 (fun _ => rfl) ?_
          refine g_X8_314  dX8_word_73 ?_
          refine h_iconst (1 : Int32) dX8_word_76 k_iconst_1 ?_
          refine h_iadd dX8_word_77 ?_
          obtain ⟨I2', e2, h⟩ := bnd_some h
          refine p_X8_314  dX8_word_78 ?_
          refine h_nmI e2 ?_
          refine h_aload_n dX8_word_81 rfl ?_
          refine g_X8_314  dX8_word_82 ?_
          cases h
          exact h_iret dX8_word_85 rfl E
        · rw [if_pos q4] at h
          exact h_mask [true, false, false, false] (b_X8_word_47 X Q  h E)
    · rw [if_pos q2] at h
      exact h_mask [true, false, false, false] (b_X8_word_21 X Q  h E)
theorem m_X8_word {I : Mem} {P : PMem} {O : Nat → Int64} {D : Bool} {n : Nat} {v1 : Int32} {v2 : Int32} {v3 : Int32} {r : (Int32 × Mem)}  (h : f_X8_word I v1 v2 v3 = some r) : MethR yX8_word cX8_word 4 (some .int) 4 [.inr (.inr (8, 0, 0)), .inl v1, .inl v2, .inl v3] I P O D n (some (.inl r.1)) r.2 P O D n := meth_R (Nat.le_refl _) (by decide) rfl (Nat.le_of_ble_eq_true rfl) rfl (fun X Q E => b_X8_word X Q  h E)
def f_X8_feast_52   (I : Mem) : Option (Int32 × Mem) :=
  (f_X8_refuse I (1 : Int32)).bind fun y1 =>
  some (y1.1, y1.2)
theorem b_X8_feast_52 (X : CX) (Q : State → Prop) {I : Mem} {P : PMem} {O : Nat → Int64} {D : Bool} {n : Nat} {r : (Int32 × Mem)}  (h : f_X8_feast_52 I = some r) (E : EndR X cX8_feast RX8 4 (some .int) 4 n (some (.inl r.1)) r.2 P O D Q) : Here X cX8_feast RX8 4 (some .int) 4 n 52 [some (.inr (.inr (8, 0, 0))), none, none, none] [] I P O D n Q := by
  unfold f_X8_feast_52 at h
  refine h_aload_n dX8_feast_52 rfl ?_
  refine h_iconst (1 : Int32) dX8_feast_53 k_iconst_1 ?_
  obtain ⟨y1, hh1, h⟩ := obd_some h
  refine h_cVi [.inl (1 : Int32)] (m_X8_refuse  hh1) cw_X8_435 dX8_feast_54 rfl ok_8 (by decide) rfl (Or.inr rfl) rfl ?_
  cases h
  exact h_iret dX8_feast_57 rfl E
def f_X8_feast   (I : Mem) (v1 : Int32) (v2 : Int32) (v3 : Int32) : Option (Int32 × Mem) :=
  bnd (upd4 I 8 0 0 2 (0 : Int32)) fun I1' =>
  (f_X8_isTown I1' v1).bind fun y1 =>
  if y1 = 0 then ((f_X8_fail I1' (1 : Int32)).bind fun y6 =>
  some (y6.1, y6.2)) else (if (I1' 8 0 0 31) = (4 : Int32) then (f_X8_feast_52 I1') else ((f_X8_isIn I1' v2.toInt64 (0 : Int64) (99 : Int64)).bind fun y2 =>
  if y2 = 0 then (f_X8_feast_52 I1') else ((f_X8_isIn I1' v3.toInt64 v2.toInt64 (99 : Int64)).bind fun y3 =>
  if y3 = 0 then (f_X8_feast_52 I1') else ((f_X8_keep I1').bind fun y4 =>
  (f_X8_putRow 63 0 0 y4 (y4 8 0 0 31) v1 v2 v3).bind fun y5 =>
  bnd (upd4 y5 8 0 0 31 ((y5 8 0 0 31) + (1 : Int32))) fun I2' =>
  some ((I2' 8 0 0 31), I2')))))
theorem b_X8_feast (X : CX) (Q : State → Prop) {I : Mem} {P : PMem} {O : Nat → Int64} {D : Bool} {n : Nat} {v1 : Int32} {v2 : Int32} {v3 : Int32} {r : (Int32 × Mem)}  (h : f_X8_feast I v1 v2 v3 = some r) (E : EndR X cX8_feast RX8 4 (some .int) 4 n (some (.inl r.1)) r.2 P O D Q) : Here X cX8_feast RX8 4 (some .int) 4 n 0 [some (.inr (.inr (8, 0, 0))), some (.inl v1), some (.inl v2), some (.inl v3)] [] I P O D n Q := by
  unfold f_X8_feast at h
  refine h_aload_n dX8_feast_0 rfl ?_
  refine h_iconst (0 : Int32) dX8_feast_1 k_iconst_0 ?_
  obtain ⟨I1', e1, h⟩ := bnd_some h
  refine p_X8_150  dX8_feast_2 ?_
  refine h_nmI e1 ?_
  refine h_aload_n dX8_feast_5 rfl ?_
  refine h_iload_n dX8_feast_6 rfl ?_
  obtain ⟨y1, hh1, h⟩ := obd_some h
  refine h_cVi [.inl v1] (m_X8_isTown  hh1) cw_X8_413 dX8_feast_7 rfl ok_8 (by decide) rfl (Or.inr rfl) rfl ?_
  refine h_if_ne (tgt := 19) dX8_feast_10 (by decide) (fun q1 => ?_) (fun q1 => ?_)
  · rw [if_neg q1] at h
    refine h_aload_n dX8_feast_19 rfl ?_
    refine g_X8_317  dX8_feast_20 ?_
    refine h_iconst (4 : Int32) dX8_feast_23 k_iconst_4 ?_
    refine h_icmp_eq (tgt := 52) dX8_feast_24 (by decide) (fun q2 => ?_) (fun q2 => ?_)
    · rw [if_pos q2] at h
      exact h_mask [true, false, false, false] (b_X8_feast_52 X Q  h E)
    · rw [if_neg q2] at h
      refine h_iload_n dX8_feast_27 rfl ?_
      refine h_i2l dX8_feast_28 ?_
      refine h_lconst 0 dX8_feast_29 rfl ?_
      refine h_ldc2 99 dX8_feast_30 kl_X8_441 ?_
      obtain ⟨y2, hh2, h⟩ := obd_some h
      refine h_cSi [.inr (.inl v2.toInt64), .inr (.inl (0 : Int64)), .inr (.inl (99 : Int64))] (m_X8_isIn  hh2) cs_X8_153 dX8_feast_33 rfl (by decide) rfl (Or.inr rfl) rfl ?_
      refine h_if_eq (tgt := 52) dX8_feast_36 (by decide) (fun q3 => ?_) (fun q3 => ?_)
      · rw [if_pos q3] at h
        exact h_mask [true, false, false, false] (b_X8_feast_52 X Q  h E)
      · rw [if_neg q3] at h
        refine h_iload_n dX8_feast_39 rfl ?_
        refine h_i2l dX8_feast_40 ?_
        refine h_iload_n dX8_feast_41 rfl ?_
        refine h_i2l dX8_feast_42 ?_
        refine h_ldc2 99 dX8_feast_43 kl_X8_441 ?_
        obtain ⟨y3, hh3, h⟩ := obd_some h
        refine h_cSi [.inr (.inl v3.toInt64), .inr (.inl v2.toInt64), .inr (.inl (99 : Int64))] (m_X8_isIn  hh3) cs_X8_153 dX8_feast_46 rfl (by decide) rfl (Or.inr rfl) rfl ?_
        refine h_if_ne (tgt := 58) dX8_feast_49 (by decide) (fun q4 => ?_) (fun q4 => ?_)
        · rw [if_neg q4] at h
          refine h_aload_n dX8_feast_58 rfl ?_
          obtain ⟨y4, hh4, h⟩ := obd_some h
          refine h_cVv [] (m_X8_keep  hh4) cw_X8_438 dX8_feast_59 rfl ok_8 (by decide) rfl (Or.inr rfl) rfl ?_
          refine h_aload_n dX8_feast_62 rfl ?_
          refine g_X8_76  dX8_feast_63 ?_
          refine h_aload_n dX8_feast_66 rfl ?_
          refine g_X8_317  dX8_feast_67 ?_
          refine h_iload_n dX8_feast_70 rfl ?_
          refine h_iload_n dX8_feast_71 rfl ?_
          refine h_iload_n dX8_feast_72 rfl ?_
          obtain ⟨y5, hh5, h⟩ := obd_some h
          refine h_cSv [.inr (.inr (63, 0, 0)), .inl (y4 8 0 0 31), .inl v1, .inl v2, .inl v3] (m_X8_putRow rfl hh5) cs_X8_443 dX8_feast_73 rfl (by decide) rfl (Or.inr rfl) rfl ?_
          refine h_aload_n dX8_feast_76 rfl ?_
          refine h_dup dX8_feast_77 (fun _ => rfl) ?_
          refine g_X8_317  dX8_feast_78 ?_
          refine h_iconst (1 : Int32) dX8_feast_81 k_iconst_1 ?_
          refine h_iadd dX8_feast_82 ?_
          obtain ⟨I2', e2, h⟩ := bnd_some h
          refine p_X8_317  dX8_feast_83 ?_
          refine h_nmI e2 ?_
          refine h_aload_n dX8_feast_86 rfl ?_
          refine g_X8_317  dX8_feast_87 ?_
          cases h
          exact h_iret dX8_feast_90 rfl E
        · rw [if_pos q4] at h
          exact h_mask [true, false, false, false] (b_X8_feast_52 X Q  h E)
  · rw [if_pos q1] at h
    refine h_aload_n dX8_feast_13 rfl ?_
    refine h_iconst (1 : Int32) dX8_feast_14 k_iconst_1 ?_
    obtain ⟨y6, hh6, h⟩ := obd_some h
    refine h_cVi [.inl (1 : Int32)] (m_X8_fail  hh6) cw_X8_298 dX8_feast_15 rfl ok_8 (by decide) rfl (Or.inr rfl) rfl ?_
    cases h
    exact h_iret dX8_feast_18 rfl E
theorem m_X8_feast {I : Mem} {P : PMem} {O : Nat → Int64} {D : Bool} {n : Nat} {v1 : Int32} {v2 : Int32} {v3 : Int32} {r : (Int32 × Mem)}  (h : f_X8_feast I v1 v2 v3 = some r) : MethR yX8_feast cX8_feast 4 (some .int) 4 [.inr (.inr (8, 0, 0)), .inl v1, .inl v2, .inl v3] I P O D n (some (.inl r.1)) r.2 P O D n := meth_R (Nat.le_refl _) (by decide) rfl (Nat.le_of_ble_eq_true rfl) rfl (fun X Q E => b_X8_feast X Q  h E)
def f_X8_flood_51   (I : Mem) : Option (Int32 × Mem) :=
  (f_X8_refuse I (1 : Int32)).bind fun y1 =>
  some (y1.1, y1.2)
theorem b_X8_flood_51 (X : CX) (Q : State → Prop) {I : Mem} {P : PMem} {O : Nat → Int64} {D : Bool} {n : Nat} {r : (Int32 × Mem)}  (h : f_X8_flood_51 I = some r) (E : EndR X cX8_flood RX8 4 (some .int) 4 n (some (.inl r.1)) r.2 P O D Q) : Here X cX8_flood RX8 4 (some .int) 4 n 51 [some (.inr (.inr (8, 0, 0))), none, none, none] [] I P O D n Q := by
  unfold f_X8_flood_51 at h
  refine h_aload_n dX8_flood_51 rfl ?_
  refine h_iconst (1 : Int32) dX8_flood_52 k_iconst_1 ?_
  obtain ⟨y1, hh1, h⟩ := obd_some h
  refine h_cVi [.inl (1 : Int32)] (m_X8_refuse  hh1) cw_X8_435 dX8_flood_53 rfl ok_8 (by decide) rfl (Or.inr rfl) rfl ?_
  cases h
  exact h_iret dX8_flood_56 rfl E
def f_X8_flood   (I : Mem) (v1 : Int32) (v2 : Int32) (v3 : Int32) : Option (Int32 × Mem) :=
  bnd (upd4 I 8 0 0 2 (0 : Int32)) fun I1' =>
  (f_X8_isTown I1' v1).bind fun y1 =>
  if y1 = 0 then ((f_X8_fail I1' (1 : Int32)).bind fun y6 =>
  some (y6.1, y6.2)) else (if (I1' 8 0 0 32) = (4 : Int32) then (f_X8_flood_51 I1') else ((f_X8_isIn I1' v2.toInt64 (0 : Int64) (99 : Int64)).bind fun y2 =>
  if y2 = 0 then (f_X8_flood_51 I1') else ((f_X8_isIn I1' v3.toInt64 (0 : Int64) (20 : Int64)).bind fun y3 =>
  if y3 = 0 then (f_X8_flood_51 I1') else ((f_X8_keep I1').bind fun y4 =>
  (f_X8_putRow 64 0 0 y4 (y4 8 0 0 32) v1 v2 v3).bind fun y5 =>
  bnd (upd4 y5 8 0 0 32 ((y5 8 0 0 32) + (1 : Int32))) fun I2' =>
  some ((I2' 8 0 0 32), I2')))))
theorem b_X8_flood (X : CX) (Q : State → Prop) {I : Mem} {P : PMem} {O : Nat → Int64} {D : Bool} {n : Nat} {v1 : Int32} {v2 : Int32} {v3 : Int32} {r : (Int32 × Mem)}  (h : f_X8_flood I v1 v2 v3 = some r) (E : EndR X cX8_flood RX8 4 (some .int) 4 n (some (.inl r.1)) r.2 P O D Q) : Here X cX8_flood RX8 4 (some .int) 4 n 0 [some (.inr (.inr (8, 0, 0))), some (.inl v1), some (.inl v2), some (.inl v3)] [] I P O D n Q := by
  unfold f_X8_flood at h
  refine h_aload_n dX8_flood_0 rfl ?_
  refine h_iconst (0 : Int32) dX8_flood_1 k_iconst_0 ?_
  obtain ⟨I1', e1, h⟩ := bnd_some h
  refine p_X8_150  dX8_flood_2 ?_
  refine h_nmI e1 ?_
  refine h_aload_n dX8_flood_5 rfl ?_
  refine h_iload_n dX8_flood_6 rfl ?_
  obtain ⟨y1, hh1, h⟩ := obd_some h
  refine h_cVi [.inl v1] (m_X8_isTown  hh1) cw_X8_413 dX8_flood_7 rfl ok_8 (by decide) rfl (Or.inr rfl) rfl ?_
  refine h_if_ne (tgt := 19) dX8_flood_10 (by decide) (fun q1 => ?_) (fun q1 => ?_)
  · rw [if_neg q1] at h
    refine h_aload_n dX8_flood_19 rfl ?_
    refine g_X8_320  dX8_flood_20 ?_
    refine h_iconst (4 : Int32) dX8_flood_23 k_iconst_4 ?_
    refine h_icmp_eq (tgt := 51) dX8_flood_24 (by decide) (fun q2 => ?_) (fun q2 => ?_)
    · rw [if_pos q2] at h
      exact h_mask [true, false, false, false] (b_X8_flood_51 X Q  h E)
    · rw [if_neg q2] at h
      refine h_iload_n dX8_flood_27 rfl ?_
      refine h_i2l dX8_flood_28 ?_
      refine h_lconst 0 dX8_flood_29 rfl ?_
      refine h_ldc2 99 dX8_flood_30 kl_X8_441 ?_
      obtain ⟨y2, hh2, h⟩ := obd_some h
      refine h_cSi [.inr (.inl v2.toInt64), .inr (.inl (0 : Int64)), .inr (.inl (99 : Int64))] (m_X8_isIn  hh2) cs_X8_153 dX8_flood_33 rfl (by decide) rfl (Or.inr rfl) rfl ?_
      refine h_if_eq (tgt := 51) dX8_flood_36 (by decide) (fun q3 => ?_) (fun q3 => ?_)
      · rw [if_pos q3] at h
        exact h_mask [true, false, false, false] (b_X8_flood_51 X Q  h E)
      · rw [if_neg q3] at h
        refine h_iload_n dX8_flood_39 rfl ?_
        refine h_i2l dX8_flood_40 ?_
        refine h_lconst 0 dX8_flood_41 rfl ?_
        refine h_ldc2 20 dX8_flood_42 kl_X8_447 ?_
        obtain ⟨y3, hh3, h⟩ := obd_some h
        refine h_cSi [.inr (.inl v3.toInt64), .inr (.inl (0 : Int64)), .inr (.inl (20 : Int64))] (m_X8_isIn  hh3) cs_X8_153 dX8_flood_45 rfl (by decide) rfl (Or.inr rfl) rfl ?_
        refine h_if_ne (tgt := 57) dX8_flood_48 (by decide) (fun q4 => ?_) (fun q4 => ?_)
        · rw [if_neg q4] at h
          refine h_aload_n dX8_flood_57 rfl ?_
          obtain ⟨y4, hh4, h⟩ := obd_some h
          refine h_cVv [] (m_X8_keep  hh4) cw_X8_438 dX8_flood_58 rfl ok_8 (by decide) rfl (Or.inr rfl) rfl ?_
          refine h_aload_n dX8_flood_61 rfl ?_
          refine g_X8_79  dX8_flood_62 ?_
          refine h_aload_n dX8_flood_65 rfl ?_
          refine g_X8_320  dX8_flood_66 ?_
          refine h_iload_n dX8_flood_69 rfl ?_
          refine h_iload_n dX8_flood_70 rfl ?_
          refine h_iload_n dX8_flood_71 rfl ?_
          obtain ⟨y5, hh5, h⟩ := obd_some h
          refine h_cSv [.inr (.inr (64, 0, 0)), .inl (y4 8 0 0 32), .inl v1, .inl v2, .inl v3] (m_X8_putRow rfl hh5) cs_X8_443 dX8_flood_72 rfl (by decide) rfl (Or.inr rfl) rfl ?_
          refine h_aload_n dX8_flood_75 rfl ?_
          refine h_dup dX8_flood_76 (fun _ => rfl) ?_
          refine g_X8_320  dX8_flood_77 ?_
          refine h_iconst (1 : Int32) dX8_flood_80 k_iconst_1 ?_
          refine h_iadd dX8_flood_81 ?_
          obtain ⟨I2', e2, h⟩ := bnd_some h
          refine p_X8_320  dX8_flood_82 ?_
          refine h_nmI e2 ?_
          refine h_aload_n dX8_flood_85 rfl ?_
          refine g_X8_320  dX8_flood_86 ?_
          cases h
          exact h_iret dX8_flood_89 rfl E
        · rw [if_pos q4] at h
          exact h_mask [true, false, false, false] (b_X8_flood_51 X Q  h E)
  · rw [if_pos q1] at h
    refine h_aload_n dX8_flood_13 rfl ?_
    refine h_iconst (1 : Int32) dX8_flood_14 k_iconst_1 ?_
    obtain ⟨y6, hh6, h⟩ := obd_some h
    refine h_cVi [.inl (1 : Int32)] (m_X8_fail  hh6) cw_X8_298 dX8_flood_15 rfl ok_8 (by decide) rfl (Or.inr rfl) rfl ?_
    cases h
    exact h_iret dX8_flood_18 rfl E
theorem m_X8_flood {I : Mem} {P : PMem} {O : Nat → Int64} {D : Bool} {n : Nat} {v1 : Int32} {v2 : Int32} {v3 : Int32} {r : (Int32 × Mem)}  (h : f_X8_flood I v1 v2 v3 = some r) : MethR yX8_flood cX8_flood 4 (some .int) 4 [.inr (.inr (8, 0, 0)), .inl v1, .inl v2, .inl v3] I P O D n (some (.inl r.1)) r.2 P O D n := meth_R (Nat.le_refl _) (by decide) rfl (Nat.le_of_ble_eq_true rfl) rfl (fun X Q E => b_X8_flood X Q  h E)
def f_X8_undo   (I : Mem) : Option (Int32 × Mem) :=
  bnd (upd4 I 8 0 0 2 (0 : Int32)) fun I1' =>
  if (I1' 8 0 0 33) = 0 then (some ((-1 : Int32), I1')) else (bnd (upd4 I1' 8 0 0 33 ((I1' 8 0 0 33) - (1 : Int32))) fun I2' =>
  (f_X8_unpack 65 0 0 I2' ((45 : Int32) * (I2' 8 0 0 33))).bind fun y1 =>
  some ((y1 8 0 0 33), y1))
theorem b_X8_undo (X : CX) (Q : State → Prop) {I : Mem} {P : PMem} {O : Nat → Int64} {D : Bool} {n : Nat} {r : (Int32 × Mem)}  (h : f_X8_undo I = some r) (E : EndR X cX8_undo RX8 1 (some .int) 3 n (some (.inl r.1)) r.2 P O D Q) : Here X cX8_undo RX8 1 (some .int) 3 n 0 [some (.inr (.inr (8, 0, 0)))] [] I P O D n Q := by
  unfold f_X8_undo at h
  refine h_aload_n dX8_undo_0 rfl ?_
  refine h_iconst (0 : Int32) dX8_undo_1 k_iconst_0 ?_
  obtain ⟨I1', e1, h⟩ := bnd_some h
  refine p_X8_150  dX8_undo_2 ?_
  refine h_nmI e1 ?_
  refine h_aload_n dX8_undo_5 rfl ?_
  refine g_X8_323  dX8_undo_6 ?_
  refine h_if_ne (tgt := 14) dX8_undo_9 (by decide) (fun q1 => ?_) (fun q1 => ?_)
  · rw [if_neg q1] at h
    refine h_aload_n dX8_undo_14 rfl ?_
    refine h_dup dX8_undo_15 (fun _ => rfl) ?_
    refine g_X8_323  dX8_undo_16 ?_
    refine h_iconst (1 : Int32) dX8_undo_19 k_iconst_1 ?_
    refine h_isub dX8_undo_20 ?_
    obtain ⟨I2', e2, h⟩ := bnd_some h
    refine p_X8_323  dX8_undo_21 ?_
    refine h_nmI e2 ?_
    refine h_aload_n dX8_undo_24 rfl ?_
    refine h_aload_n dX8_undo_25 rfl ?_
    refine g_X8_82  dX8_undo_26 ?_
    refine h_bipush (45 : Int32) dX8_undo_29 k_bipush_45 ?_
    refine h_aload_n dX8_undo_31 rfl ?_
    refine g_X8_323  dX8_undo_32 ?_
    refine h_imul dX8_undo_35 ?_
    obtain ⟨y1, hh1, h⟩ := obd_some h
    refine h_cVv [.inr (.inr (65, 0, 0)), .inl ((45 : Int32) * (I2' 8 0 0 33))] (m_X8_unpack rfl hh1) cw_X8_449 dX8_undo_36 rfl ok_8 (by decide) rfl (Or.inr rfl) rfl ?_
    refine h_aload_n dX8_undo_39 rfl ?_
    refine g_X8_323  dX8_undo_40 ?_
    cases h
    exact h_iret dX8_undo_43 rfl E
  · rw [if_pos q1] at h
    refine h_iconst (-1 : Int32) dX8_undo_12 k_iconst_m1 ?_
    cases h
    exact h_iret dX8_undo_13 rfl E
theorem m_X8_undo {I : Mem} {P : PMem} {O : Nat → Int64} {D : Bool} {n : Nat}  {r : (Int32 × Mem)}  (h : f_X8_undo I = some r) : MethR yX8_undo cX8_undo 1 (some .int) 3 [.inr (.inr (8, 0, 0))] I P O D n (some (.inl r.1)) r.2 P O D n := meth_R (Nat.le_refl _) (by decide) rfl (Nat.le_of_ble_eq_true rfl) rfl (fun X Q E => b_X8_undo X Q  h E)
def f_X8_burn_31   : Nat → Mem → Int32 → Int32 → Int32 → Int32 → Option (Int32 × Mem)
  | 0, _, _, _, _, _ => none
  | fu + 1, I, v1, v2, v3, v4 =>
    if (I 50 0 0 0) ≤ v4 then (if v1 = 0 then (some (v2, I)) else (some (v3, I))) else (if ((jshr (I 8 0 0 29) v4) &&& (1 : Int32)) = 0 then ((f_X8_burn_31 fu) I v1 v2 v3 (v4 + (1 : Int32))) else (bnd (upd4 I 8 0 0 29 ((I 8 0 0 29) ^^^ (jshl (1 : Int32) v4))) fun I1' =>
    (f_X8_tell I1').bind fun y1 =>
    bnd (upd4 y1.2 8 0 0 29 ((y1.2 8 0 0 29) ^^^ (jshl (1 : Int32) v4))) fun I2' =>
    if v3 < y1.1 then ((f_X8_burn_31 fu) I2' v1 v4 y1.1 (v4 + (1 : Int32))) else ((f_X8_burn_31 fu) I2' v1 v2 v3 (v4 + (1 : Int32)))))
theorem b_X8_burn_31 (X : CX) (Q : State → Prop) {P : PMem} {O : Nat → Int64} {D : Bool} {n : Nat} {r : (Int32 × Mem)}  : ∀ (fu : Nat) {I : Mem} {v1 : Int32} {v2 : Int32} {v3 : Int32} {v4 : Int32}, f_X8_burn_31 fu I v1 v2 v3 v4 = some r → EndR X cX8_burn RX8 6 (some .int) 9 n (some (.inl r.1)) r.2 P O D Q → Here X cX8_burn RX8 6 (some .int) 9 n 31 [some (.inr (.inr (8, 0, 0))), some (.inl v1), some (.inl v2), some (.inl v3), some (.inl v4), none] [] I P O D n Q := by
  intro fu
  induction fu with
  | zero => intro I v1 v2 v3 v4 h E; cases h
  | succ fu ih =>
  intro I v1 v2 v3 v4 h E
  have H31 : ∀ (I : Mem) (v1 : Int32) (v2 : Int32) (v3 : Int32) (v4 : Int32), f_X8_burn_31 fu I v1 v2 v3 v4 = some r → Here X cX8_burn RX8 6 (some .int) 9 n 31 [some (.inr (.inr (8, 0, 0))), some (.inl v1), some (.inl v2), some (.inl v3), some (.inl v4), none] [] I P O D n Q := fun _ _ _ _ _ b => ih b E
  simp only [f_X8_burn_31] at h
  refine h_iload dX8_burn_31 rfl ?_
  refine h_aload_n dX8_burn_33 rfl ?_
  refine g_X8_34  dX8_burn_34 ?_
  refine h_iconst (0 : Int32) dX8_burn_37 k_iconst_0 ?_
  refine al_50  0 cl_0 dX8_burn_38 rfl ?_
  refine h_icmp_ge (tgt := 110) dX8_burn_39 (by decide) (fun q1 => ?_) (fun q1 => ?_)
  · rw [if_pos q1] at h
    refine h_iload_n dX8_burn_110 rfl ?_
    refine h_if_ne (tgt := 118) dX8_burn_111 (by decide) (fun q2 => ?_) (fun q2 => ?_)
    · rw [if_neg q2] at h
      refine h_iload_n dX8_burn_118 rfl ?_
      cases h
      exact h_iret dX8_burn_119 rfl E
    · rw [if_pos q2] at h
      refine h_iload_n dX8_burn_114 rfl ?_
      refine h_goto (tgt := 119) dX8_burn_115 (by decide) ?_
      cases h
      exact h_iret dX8_burn_119 rfl E
  · rw [if_neg q1] at h
    refine h_aload_n dX8_burn_42 rfl ?_
    refine g_X8_311  dX8_burn_43 ?_
    refine h_iload dX8_burn_46 rfl ?_
    refine h_shr dX8_burn_48 ?_
    refine h_iconst (1 : Int32) dX8_burn_49 k_iconst_1 ?_
    refine h_iand dX8_burn_50 ?_
    refine h_if_ne (tgt := 57) dX8_burn_51 (by decide) (fun q3 => ?_) (fun q3 => ?_)
    · rw [if_neg q3] at h
      refine h_aload_n dX8_burn_57 rfl ?_
      refine h_dup dX8_burn_58 (fun _ => rfl) ?_
      refine g_X8_311  dX8_burn_59 ?_
      refine h_iconst (1 : Int32) dX8_burn_62 k_iconst_1 ?_
      refine h_iload dX8_burn_63 rfl ?_
      refine h_shl dX8_burn_65 ?_
      refine h_ixor dX8_burn_66 ?_
      obtain ⟨I1', e1, h⟩ := bnd_some h
      refine p_X8_311  dX8_burn_67 ?_
      refine h_nmI e1 ?_
      refine h_aload_n dX8_burn_70 rfl ?_
      obtain ⟨y1, hh1, h⟩ := obd_some h
      refine h_cVi [] (m_X8_tell  hh1) cw_X8_407 dX8_burn_71 rfl ok_8 (by decide) rfl (Or.inr rfl) rfl ?_
      refine h_istore dX8_burn_74 (by decide) rfl ?_
      refine h_aload_n dX8_burn_76 rfl ?_
      refine h_dup dX8_burn_77 (fun _ => rfl) ?_
      refine g_X8_311  dX8_burn_78 ?_
      refine h_iconst (1 : Int32) dX8_burn_81 k_iconst_1 ?_
      refine h_iload dX8_burn_82 rfl ?_
      refine h_shl dX8_burn_84 ?_
      refine h_ixor dX8_burn_85 ?_
      obtain ⟨I2', e2, h⟩ := bnd_some h
      refine p_X8_311  dX8_burn_86 ?_
      refine h_nmI e2 ?_
      refine h_iload dX8_burn_89 rfl ?_
      refine h_iload_n dX8_burn_91 rfl ?_
      refine h_icmp_gt (tgt := 98) dX8_burn_92 (by decide) (fun q4 => ?_) (fun q4 => ?_)
      · rw [if_pos q4] at h
        refine h_iload dX8_burn_98 rfl ?_
        refine h_istore_n dX8_burn_100 (by decide) rfl ?_
        refine h_iload dX8_burn_101 rfl ?_
        refine h_istore_n dX8_burn_103 (by decide) rfl ?_
        refine h_iinc (1 : Int32) dX8_burn_104 rfl k_iinc_1 (by decide) rfl ?_
        refine h_goto (tgt := 31) dX8_burn_107 (by decide) ?_
        exact h_mask [true, true, true, true, true, false] (H31 _ _ _ _ _ h)
      · rw [if_neg q4] at h
        refine h_goto (tgt := 104) dX8_burn_95 (by decide) ?_
        refine h_iinc (1 : Int32) dX8_burn_104 rfl k_iinc_1 (by decide) rfl ?_
        refine h_goto (tgt := 31) dX8_burn_107 (by decide) ?_
        exact h_mask [true, true, true, true, true, false] (H31 _ _ _ _ _ h)
    · rw [if_pos q3] at h
      refine h_goto (tgt := 104) dX8_burn_54 (by decide) ?_
      refine h_iinc (1 : Int32) dX8_burn_104 rfl k_iinc_1 (by decide) rfl ?_
      refine h_goto (tgt := 31) dX8_burn_107 (by decide) ?_
      exact (H31 _ _ _ _ _ h)
def f_X8_burn_14   (I : Mem) : Option (Int32 × Mem) :=
  (f_X8_fail I (1 : Int32)).bind fun y1 =>
  some (y1.1, y1.2)
theorem b_X8_burn_14 (X : CX) (Q : State → Prop) {I : Mem} {P : PMem} {O : Nat → Int64} {D : Bool} {n : Nat} {r : (Int32 × Mem)}  (h : f_X8_burn_14 I = some r) (E : EndR X cX8_burn RX8 6 (some .int) 9 n (some (.inl r.1)) r.2 P O D Q) : Here X cX8_burn RX8 6 (some .int) 9 n 14 [some (.inr (.inr (8, 0, 0))), none, none, none, none, none] [] I P O D n Q := by
  unfold f_X8_burn_14 at h
  refine h_aload_n dX8_burn_14 rfl ?_
  refine h_iconst (1 : Int32) dX8_burn_15 k_iconst_1 ?_
  obtain ⟨y1, hh1, h⟩ := obd_some h
  refine h_cVi [.inl (1 : Int32)] (m_X8_fail  hh1) cw_X8_298 dX8_burn_16 rfl ok_8 (by decide) rfl (Or.inr rfl) rfl ?_
  cases h
  exact h_iret dX8_burn_19 rfl E
def f_X8_burn   (I : Mem) (v1 : Int32) : Option (Int32 × Mem) :=
  bnd (upd4 I 8 0 0 2 (0 : Int32)) fun I1' =>
  if v1 < 0 then (f_X8_burn_14 I1') else (if v1 ≤ (1 : Int32) then ((f_X8_set I1').bind fun y1 =>
  f_X8_burn_31 FU y1 v1 (-1 : Int32) (-1 : Int32) (0 : Int32)) else (f_X8_burn_14 I1'))
theorem b_X8_burn (X : CX) (Q : State → Prop) {I : Mem} {P : PMem} {O : Nat → Int64} {D : Bool} {n : Nat} {v1 : Int32} {r : (Int32 × Mem)}  (h : f_X8_burn I v1 = some r) (E : EndR X cX8_burn RX8 6 (some .int) 9 n (some (.inl r.1)) r.2 P O D Q) : Here X cX8_burn RX8 6 (some .int) 9 n 0 [some (.inr (.inr (8, 0, 0))), some (.inl v1), none, none, none, none] [] I P O D n Q := by
  unfold f_X8_burn at h
  refine h_aload_n dX8_burn_0 rfl ?_
  refine h_iconst (0 : Int32) dX8_burn_1 k_iconst_0 ?_
  obtain ⟨I1', e1, h⟩ := bnd_some h
  refine p_X8_150  dX8_burn_2 ?_
  refine h_nmI e1 ?_
  refine h_iload_n dX8_burn_5 rfl ?_
  refine h_if_lt (tgt := 14) dX8_burn_6 (by decide) (fun q1 => ?_) (fun q1 => ?_)
  · rw [if_pos q1] at h
    exact h_mask [true, false, false, false, false, false] (b_X8_burn_14 X Q  h E)
  · rw [if_neg q1] at h
    refine h_iload_n dX8_burn_9 rfl ?_
    refine h_iconst (1 : Int32) dX8_burn_10 k_iconst_1 ?_
    refine h_icmp_le (tgt := 20) dX8_burn_11 (by decide) (fun q2 => ?_) (fun q2 => ?_)
    · rw [if_pos q2] at h
      refine h_aload_n dX8_burn_20 rfl ?_
      obtain ⟨y1, hh1, h⟩ := obd_some h
      refine h_cVv [] (m_X8_set  hh1) cw_X8_404 dX8_burn_21 rfl ok_8 (by decide) rfl (Or.inr rfl) rfl ?_
      refine h_iconst (-1 : Int32) dX8_burn_24 k_iconst_m1 ?_
      refine h_istore_n dX8_burn_25 (by decide) rfl ?_
      refine h_iconst (-1 : Int32) dX8_burn_26 k_iconst_m1 ?_
      refine h_istore_n dX8_burn_27 (by decide) rfl ?_
      refine h_iconst (0 : Int32) dX8_burn_28 k_iconst_0 ?_
      refine h_istore dX8_burn_29 (by decide) rfl ?_
      exact (b_X8_burn_31 X Q FU  h E)
    · rw [if_neg q2] at h
      exact h_mask [true, false, false, false, false, false] (b_X8_burn_14 X Q  h E)
theorem m_X8_burn {I : Mem} {P : PMem} {O : Nat → Int64} {D : Bool} {n : Nat} {v1 : Int32} {r : (Int32 × Mem)}  (h : f_X8_burn I v1 = some r) : MethR yX8_burn cX8_burn 6 (some .int) 9 [.inr (.inr (8, 0, 0)), .inl v1] I P O D n (some (.inl r.1)) r.2 P O D n := meth_R (Nat.le_refl _) (by decide) rfl (Nat.le_of_ble_eq_true rfl) rfl (fun X Q E => b_X8_burn X Q  h E)
def f_X8_when_48   : Nat → Mem → Int32 → Int32 → Int32 → Int32 → Int32 → Int32 → Option (Int32 × Mem)
  | 0, _, _, _, _, _, _, _ => none
  | fu + 1, I, v1, v2, v3, v4, v5, v6 =>
    if (60 : Int32) < v6 then (gd (inb v1 10) <|
    bnd (upd4 I 53 0 0 v1.toNatClampNeg v3) fun I1' =>
    if v2 = 0 then (some (v4, I1')) else (some (v5, I1'))) else (gd (inb v1 10) <|
    bnd (upd4 I 53 0 0 v1.toNatClampNeg v6) fun I2' =>
    (f_X8_tell I2').bind fun y1 =>
    if v5 < y1.1 then ((f_X8_when_48 fu) y1.2 v1 v2 v3 v6 y1.1 (v6 + (1 : Int32))) else ((f_X8_when_48 fu) y1.2 v1 v2 v3 v4 v5 (v6 + (1 : Int32))))
theorem b_X8_when_48 (X : CX) (Q : State → Prop) {P : PMem} {O : Nat → Int64} {D : Bool} {n : Nat} {r : (Int32 × Mem)}  : ∀ (fu : Nat) {I : Mem} {v1 : Int32} {v2 : Int32} {v3 : Int32} {v4 : Int32} {v5 : Int32} {v6 : Int32}, f_X8_when_48 fu I v1 v2 v3 v4 v5 v6 = some r → EndR X cX8_when RX8 8 (some .int) 9 n (some (.inl r.1)) r.2 P O D Q → Here X cX8_when RX8 8 (some .int) 9 n 48 [some (.inr (.inr (8, 0, 0))), some (.inl v1), some (.inl v2), some (.inl v3), some (.inl v4), some (.inl v5), some (.inl v6), none] [] I P O D n Q := by
  intro fu
  induction fu with
  | zero => intro I v1 v2 v3 v4 v5 v6 h E; cases h
  | succ fu ih =>
  intro I v1 v2 v3 v4 v5 v6 h E
  have H48 : ∀ (I : Mem) (v1 : Int32) (v2 : Int32) (v3 : Int32) (v4 : Int32) (v5 : Int32) (v6 : Int32), f_X8_when_48 fu I v1 v2 v3 v4 v5 v6 = some r → Here X cX8_when RX8 8 (some .int) 9 n 48 [some (.inr (.inr (8, 0, 0))), some (.inl v1), some (.inl v2), some (.inl v3), some (.inl v4), some (.inl v5), some (.inl v6), none] [] I P O D n Q := fun _ _ _ _ _ _ _ b => ih b E
  simp only [f_X8_when_48] at h
  refine h_iload dX8_when_48 rfl ?_
  refine h_bipush (60 : Int32) dX8_when_50 k_bipush_60 ?_
  refine h_icmp_gt (tgt := 93) dX8_when_52 (by decide) (fun q1 => ?_) (fun q1 => ?_)
  · rw [if_pos q1] at h
    refine h_aload_n dX8_when_93 rfl ?_
    refine g_X8_44  dX8_when_94 ?_
    refine h_iload_n dX8_when_97 rfl ?_
    refine h_iload_n dX8_when_98 rfl ?_
    obtain ⟨g1, h⟩ := gd_some h
    obtain ⟨I1', e1, h⟩ := bnd_some h
    refine as_53  v1.toNatClampNeg rfl dX8_when_99 g1 ?_
    refine h_nmI e1 ?_
    refine h_iload_n dX8_when_100 rfl ?_
    refine h_if_ne (tgt := 109) dX8_when_101 (by decide) (fun q2 => ?_) (fun q2 => ?_)
    · rw [if_neg q2] at h
      refine h_iload dX8_when_109 rfl ?_
      cases h
      exact h_iret dX8_when_111 rfl E
    · rw [if_pos q2] at h
      refine h_iload dX8_when_104 rfl ?_
      refine h_goto (tgt := 111) dX8_when_106 (by decide) ?_
      cases h
      exact h_iret dX8_when_111 rfl E
  · rw [if_neg q1] at h
    refine h_aload_n dX8_when_55 rfl ?_
    refine g_X8_44  dX8_when_56 ?_
    refine h_iload_n dX8_when_59 rfl ?_
    refine h_iload dX8_when_60 rfl ?_
    obtain ⟨g2, h⟩ := gd_some h
    obtain ⟨I2', e2, h⟩ := bnd_some h
    refine as_53  v1.toNatClampNeg rfl dX8_when_62 g2 ?_
    refine h_nmI e2 ?_
    refine h_aload_n dX8_when_63 rfl ?_
    obtain ⟨y1, hh1, h⟩ := obd_some h
    refine h_cVi [] (m_X8_tell  hh1) cw_X8_407 dX8_when_64 rfl ok_8 (by decide) rfl (Or.inr rfl) rfl ?_
    refine h_istore dX8_when_67 (by decide) rfl ?_
    refine h_iload dX8_when_69 rfl ?_
    refine h_iload dX8_when_71 rfl ?_
    refine h_icmp_gt (tgt := 79) dX8_when_73 (by decide) (fun q3 => ?_) (fun q3 => ?_)
    · rw [if_pos q3] at h
      refine h_iload dX8_when_79 rfl ?_
      refine h_istore dX8_when_81 (by decide) rfl ?_
      refine h_iload dX8_when_83 rfl ?_
      refine h_istore dX8_when_85 (by decide) rfl ?_
      refine h_iinc (1 : Int32) dX8_when_87 rfl k_iinc_1 (by decide) rfl ?_
      refine h_goto (tgt := 48) dX8_when_90 (by decide) ?_
      exact h_mask [true, true, true, true, true, true, true, false] (H48 _ _ _ _ _ _ _ h)
    · rw [if_neg q3] at h
      refine h_goto (tgt := 87) dX8_when_76 (by decide) ?_
      refine h_iinc (1 : Int32) dX8_when_87 rfl k_iinc_1 (by decide) rfl ?_
      refine h_goto (tgt := 48) dX8_when_90 (by decide) ?_
      exact h_mask [true, true, true, true, true, true, true, false] (H48 _ _ _ _ _ _ _ h)
def f_X8_when_22   (I : Mem) : Option (Int32 × Mem) :=
  (f_X8_fail I (1 : Int32)).bind fun y1 =>
  some (y1.1, y1.2)
theorem b_X8_when_22 (X : CX) (Q : State → Prop) {I : Mem} {P : PMem} {O : Nat → Int64} {D : Bool} {n : Nat} {r : (Int32 × Mem)}  (h : f_X8_when_22 I = some r) (E : EndR X cX8_when RX8 8 (some .int) 9 n (some (.inl r.1)) r.2 P O D Q) : Here X cX8_when RX8 8 (some .int) 9 n 22 [some (.inr (.inr (8, 0, 0))), none, none, none, none, none, none, none] [] I P O D n Q := by
  unfold f_X8_when_22 at h
  refine h_aload_n dX8_when_22 rfl ?_
  refine h_iconst (1 : Int32) dX8_when_23 k_iconst_1 ?_
  obtain ⟨y1, hh1, h⟩ := obd_some h
  refine h_cVi [.inl (1 : Int32)] (m_X8_fail  hh1) cw_X8_298 dX8_when_24 rfl ok_8 (by decide) rfl (Or.inr rfl) rfl ?_
  cases h
  exact h_iret dX8_when_27 rfl E
def f_X8_when   (I : Mem) (v1 : Int32) (v2 : Int32) : Option (Int32 × Mem) :=
  bnd (upd4 I 8 0 0 2 (0 : Int32)) fun I1' =>
  (f_X8_isJudge I1' v1).bind fun y1 =>
  if y1 = 0 then (f_X8_when_22 I1') else (if v2 < 0 then (f_X8_when_22 I1') else (if v2 ≤ (1 : Int32) then ((f_X8_set I1').bind fun y2 =>
  gd (inb v1 10) <|
  bnd (y2 53 0 0 v1.toNatClampNeg) fun x1 =>
  f_X8_when_48 FU y2 v1 v2 x1 (-1 : Int32) (-1 : Int32) (0 : Int32)) else (f_X8_when_22 I1')))
theorem b_X8_when (X : CX) (Q : State → Prop) {I : Mem} {P : PMem} {O : Nat → Int64} {D : Bool} {n : Nat} {v1 : Int32} {v2 : Int32} {r : (Int32 × Mem)}  (h : f_X8_when I v1 v2 = some r) (E : EndR X cX8_when RX8 8 (some .int) 9 n (some (.inl r.1)) r.2 P O D Q) : Here X cX8_when RX8 8 (some .int) 9 n 0 [some (.inr (.inr (8, 0, 0))), some (.inl v1), some (.inl v2), none, none, none, none, none] [] I P O D n Q := by
  unfold f_X8_when at h
  refine h_aload_n dX8_when_0 rfl ?_
  refine h_iconst (0 : Int32) dX8_when_1 k_iconst_0 ?_
  obtain ⟨I1', e1, h⟩ := bnd_some h
  refine p_X8_150  dX8_when_2 ?_
  refine h_nmI e1 ?_
  refine h_aload_n dX8_when_5 rfl ?_
  refine h_iload_n dX8_when_6 rfl ?_
  obtain ⟨y1, hh1, h⟩ := obd_some h
  refine h_cVi [.inl v1] (m_X8_isJudge  hh1) cw_X8_419 dX8_when_7 rfl ok_8 (by decide) rfl (Or.inr rfl) rfl ?_
  refine h_if_eq (tgt := 22) dX8_when_10 (by decide) (fun q1 => ?_) (fun q1 => ?_)
  · rw [if_pos q1] at h
    exact h_mask [true, false, false, false, false, false, false, false] (b_X8_when_22 X Q  h E)
  · rw [if_neg q1] at h
    refine h_iload_n dX8_when_13 rfl ?_
    refine h_if_lt (tgt := 22) dX8_when_14 (by decide) (fun q2 => ?_) (fun q2 => ?_)
    · rw [if_pos q2] at h
      exact h_mask [true, false, false, false, false, false, false, false] (b_X8_when_22 X Q  h E)
    · rw [if_neg q2] at h
      refine h_iload_n dX8_when_17 rfl ?_
      refine h_iconst (1 : Int32) dX8_when_18 k_iconst_1 ?_
      refine h_icmp_le (tgt := 28) dX8_when_19 (by decide) (fun q3 => ?_) (fun q3 => ?_)
      · rw [if_pos q3] at h
        refine h_aload_n dX8_when_28 rfl ?_
        obtain ⟨y2, hh2, h⟩ := obd_some h
        refine h_cVv [] (m_X8_set  hh2) cw_X8_404 dX8_when_29 rfl ok_8 (by decide) rfl (Or.inr rfl) rfl ?_
        refine h_aload_n dX8_when_32 rfl ?_
        refine g_X8_44  dX8_when_33 ?_
        refine h_iload_n dX8_when_36 rfl ?_
        obtain ⟨g1, h⟩ := gd_some h
        refine al_53  v1.toNatClampNeg rfl dX8_when_37 g1 ?_
        obtain ⟨x1, e2, h⟩ := bnd_some h
        refine h_nmv e2 ?_
        refine h_istore_n dX8_when_38 (by decide) rfl ?_
        refine h_iconst (-1 : Int32) dX8_when_39 k_iconst_m1 ?_
        refine h_istore dX8_when_40 (by decide) rfl ?_
        refine h_iconst (-1 : Int32) dX8_when_42 k_iconst_m1 ?_
        refine h_istore dX8_when_43 (by decide) rfl ?_
        refine h_iconst (0 : Int32) dX8_when_45 k_iconst_0 ?_
        refine h_istore dX8_when_46 (by decide) rfl ?_
        exact (b_X8_when_48 X Q FU  h E)
      · rw [if_neg q3] at h
        exact h_mask [true, false, false, false, false, false, false, false] (b_X8_when_22 X Q  h E)
theorem m_X8_when {I : Mem} {P : PMem} {O : Nat → Int64} {D : Bool} {n : Nat} {v1 : Int32} {v2 : Int32} {r : (Int32 × Mem)}  (h : f_X8_when I v1 v2 = some r) : MethR yX8_when cX8_when 8 (some .int) 9 [.inr (.inr (8, 0, 0)), .inl v1, .inl v2] I P O D n (some (.inl r.1)) r.2 P O D n := meth_R (Nat.le_refl _) (by decide) rfl (Nat.le_of_ble_eq_true rfl) rfl (fun X Q E => b_X8_when X Q  h E)
def f_X8_round   (I : Mem) (v1 : Int32) : Option (Int32 × Mem) :=
  bnd (upd4 I 8 0 0 2 (0 : Int32)) fun I1' =>
  (f_X8_isJudge I1' v1).bind fun y1 =>
  if y1 = 0 then ((f_X8_fail I1' (1 : Int32)).bind fun y4 =>
  some (y4.1, y4.2)) else ((f_X8_tellNow I1').bind fun y2 =>
  bnd (upd4 y2.2 8 0 0 40 v1) fun I2' =>
  (f_X8_tell I2').bind fun y3 =>
  some ((y3.1 - y2.1), y3.2))
theorem b_X8_round (X : CX) (Q : State → Prop) {I : Mem} {P : PMem} {O : Nat → Int64} {D : Bool} {n : Nat} {v1 : Int32} {r : (Int32 × Mem)}  (h : f_X8_round I v1 = some r) (E : EndR X cX8_round RX8 3 (some .int) 10 n (some (.inl r.1)) r.2 P O D Q) : Here X cX8_round RX8 3 (some .int) 10 n 0 [some (.inr (.inr (8, 0, 0))), some (.inl v1), none] [] I P O D n Q := by
  unfold f_X8_round at h
  refine h_aload_n dX8_round_0 rfl ?_
  refine h_iconst (0 : Int32) dX8_round_1 k_iconst_0 ?_
  obtain ⟨I1', e1, h⟩ := bnd_some h
  refine p_X8_150  dX8_round_2 ?_
  refine h_nmI e1 ?_
  refine h_aload_n dX8_round_5 rfl ?_
  refine h_iload_n dX8_round_6 rfl ?_
  obtain ⟨y1, hh1, h⟩ := obd_some h
  refine h_cVi [.inl v1] (m_X8_isJudge  hh1) cw_X8_419 dX8_round_7 rfl ok_8 (by decide) rfl (Or.inr rfl) rfl ?_
  refine h_if_ne (tgt := 19) dX8_round_10 (by decide) (fun q1 => ?_) (fun q1 => ?_)
  · rw [if_neg q1] at h
    refine h_aload_n dX8_round_19 rfl ?_
    obtain ⟨y2, hh2, h⟩ := obd_some h
    refine h_cVi [] (m_X8_tellNow  hh2) cw_X8_410 dX8_round_20 rfl ok_8 (by decide) rfl (Or.inr rfl) rfl ?_
    refine h_istore_n dX8_round_23 (by decide) rfl ?_
    refine h_aload_n dX8_round_24 rfl ?_
    refine h_iload_n dX8_round_25 rfl ?_
    obtain ⟨I2', e2, h⟩ := bnd_some h
    refine p_X8_100  dX8_round_26 ?_
    refine h_nmI e2 ?_
    refine h_aload_n dX8_round_29 rfl ?_
    obtain ⟨y3, hh3, h⟩ := obd_some h
    refine h_cVi [] (m_X8_tell  hh3) cw_X8_407 dX8_round_30 rfl ok_8 (by decide) rfl (Or.inr rfl) rfl ?_
    refine h_iload_n dX8_round_33 rfl ?_
    refine h_isub dX8_round_34 ?_
    cases h
    exact h_iret dX8_round_35 rfl E
  · rw [if_pos q1] at h
    refine h_aload_n dX8_round_13 rfl ?_
    refine h_iconst (1 : Int32) dX8_round_14 k_iconst_1 ?_
    obtain ⟨y4, hh4, h⟩ := obd_some h
    refine h_cVi [.inl (1 : Int32)] (m_X8_fail  hh4) cw_X8_298 dX8_round_15 rfl ok_8 (by decide) rfl (Or.inr rfl) rfl ?_
    cases h
    exact h_iret dX8_round_18 rfl E
theorem m_X8_round {I : Mem} {P : PMem} {O : Nat → Int64} {D : Bool} {n : Nat} {v1 : Int32} {r : (Int32 × Mem)}  (h : f_X8_round I v1 = some r) : MethR yX8_round cX8_round 3 (some .int) 10 [.inr (.inr (8, 0, 0)), .inl v1] I P O D n (some (.inl r.1)) r.2 P O D n := meth_R (Nat.le_refl _) (by decide) rfl (Nat.le_of_ble_eq_true rfl) rfl (fun X Q E => b_X8_round X Q  h E)
def f_X8_free_142   (I : Mem) (v2 : Int32) (v3 : Int32) : Option (Int32 × Mem) :=
  bnd (upd4 I 8 0 0 30 ((I 8 0 0 30) - (1 : Int32))) fun I1' =>
  if v3 = (-1 : Int32) then (some ((-1 : Int32), I1')) else (if v2 = 0 then (gd ((I1' 50 0 0 0) != 0) <|
  some ((v3 / (I1' 50 0 0 0)), I1')) else (gd ((I1' 50 0 0 0) != 0) <|
  some ((jrem v3 (I1' 50 0 0 0)), I1')))
theorem b_X8_free_142 (X : CX) (Q : State → Prop) {I : Mem} {P : PMem} {O : Nat → Int64} {D : Bool} {n : Nat} {v2 : Int32} {v3 : Int32} {r : (Int32 × Mem)}  (h : f_X8_free_142 I v2 v3 = some r) (E : EndR X cX8_free RX8 5 (some .int) 10 n (some (.inl r.1)) r.2 P O D Q) : Here X cX8_free RX8 5 (some .int) 10 n 142 [some (.inr (.inr (8, 0, 0))), none, some (.inl v2), some (.inl v3), none] [] I P O D n Q := by
  unfold f_X8_free_142 at h
  refine h_aload_n dX8_free_142 rfl ?_
  refine h_dup dX8_free_143 (fun _ => rfl) ?_
  refine g_X8_314  dX8_free_144 ?_
  refine h_iconst (1 : Int32) dX8_free_147 k_iconst_1 ?_
  refine h_isub dX8_free_148 ?_
  obtain ⟨I1', e1, h⟩ := bnd_some h
  refine p_X8_314  dX8_free_149 ?_
  refine h_nmI e1 ?_
  refine h_iload_n dX8_free_152 rfl ?_
  refine h_iconst (-1 : Int32) dX8_free_153 k_iconst_m1 ?_
  refine h_icmp_ne (tgt := 161) dX8_free_154 (by decide) (fun q1 => ?_) (fun q1 => ?_)
  · rw [if_neg q1] at h
    refine h_iload_n dX8_free_161 rfl ?_
    refine h_if_ne (tgt := 176) dX8_free_162 (by decide) (fun q2 => ?_) (fun q2 => ?_)
    · rw [if_neg q2] at h
      refine h_iload_n dX8_free_176 rfl ?_
      refine h_aload_n dX8_free_177 rfl ?_
      refine g_X8_34  dX8_free_178 ?_
      refine h_iconst (0 : Int32) dX8_free_181 k_iconst_0 ?_
      refine al_50  0 cl_0 dX8_free_182 rfl ?_
      obtain ⟨g1, h⟩ := gd_some h
      refine h_rem dX8_free_183 g1 ?_
      cases h
      exact h_iret dX8_free_184 rfl E
    · rw [if_pos q2] at h
      refine h_iload_n dX8_free_165 rfl ?_
      refine h_aload_n dX8_free_166 rfl ?_
      refine g_X8_34  dX8_free_167 ?_
      refine h_iconst (0 : Int32) dX8_free_170 k_iconst_0 ?_
      refine al_50  0 cl_0 dX8_free_171 rfl ?_
      obtain ⟨g2, h⟩ := gd_some h
      refine h_div dX8_free_172 g2 ?_
      refine h_goto (tgt := 184) dX8_free_173 (by decide) ?_
      cases h
      exact h_iret dX8_free_184 rfl E
  · rw [if_pos q1] at h
    refine h_iconst (-1 : Int32) dX8_free_157 k_iconst_m1 ?_
    refine h_goto (tgt := 184) dX8_free_158 (by decide) ?_
    cases h
    exact h_iret dX8_free_184 rfl E
def f_X8_free_62   : Nat → Mem → Int32 → Int32 → Int32 → Int32 → Option (Int32 × Mem)
  | 0, _, _, _, _, _ => none
  | fu + 1, I, v1, v2, v3, v4 =>
    if ((I 50 0 0 0) * (61 : Int32)) ≤ v4 then (f_X8_free_142 I v2 v3) else (if v3 = (-1 : Int32) then (gd ((I 50 0 0 0) != 0) <|
    (f_X8_putRow 62 0 0 I ((I 8 0 0 30) - (1 : Int32)) v1 (jrem v4 (I 50 0 0 0)) (v4 / (I 50 0 0 0))).bind fun y1 =>
    (f_X8_judgeCase y1 v1).bind fun y2 =>
    gd (inb v1 6) <|
    if (y2 75 0 0 v1.toNatClampNeg) < (100000 : Int32) then ((f_X8_free_62 fu) y2 v1 v2 (-1 : Int32) (v4 + (1 : Int32))) else ((f_X8_free_62 fu) y2 v1 v2 v4 (v4 + (1 : Int32)))) else (f_X8_free_142 I v2 v3))
theorem b_X8_free_62 (X : CX) (Q : State → Prop) {P : PMem} {O : Nat → Int64} {D : Bool} {n : Nat} {r : (Int32 × Mem)}  : ∀ (fu : Nat) {I : Mem} {v1 : Int32} {v2 : Int32} {v3 : Int32} {v4 : Int32}, f_X8_free_62 fu I v1 v2 v3 v4 = some r → EndR X cX8_free RX8 5 (some .int) 10 n (some (.inl r.1)) r.2 P O D Q → Here X cX8_free RX8 5 (some .int) 10 n 62 [some (.inr (.inr (8, 0, 0))), some (.inl v1), some (.inl v2), some (.inl v3), some (.inl v4)] [] I P O D n Q := by
  intro fu
  induction fu with
  | zero => intro I v1 v2 v3 v4 h E; cases h
  | succ fu ih =>
  intro I v1 v2 v3 v4 h E
  have H62 : ∀ (I : Mem) (v1 : Int32) (v2 : Int32) (v3 : Int32) (v4 : Int32), f_X8_free_62 fu I v1 v2 v3 v4 = some r → Here X cX8_free RX8 5 (some .int) 10 n 62 [some (.inr (.inr (8, 0, 0))), some (.inl v1), some (.inl v2), some (.inl v3), some (.inl v4)] [] I P O D n Q := fun _ _ _ _ _ b => ih b E
  simp only [f_X8_free_62] at h
  refine h_iload dX8_free_62 rfl ?_
  refine h_aload_n dX8_free_64 rfl ?_
  refine g_X8_34  dX8_free_65 ?_
  refine h_iconst (0 : Int32) dX8_free_68 k_iconst_0 ?_
  refine al_50  0 cl_0 dX8_free_69 rfl ?_
  refine h_bipush (61 : Int32) dX8_free_70 k_bipush_61 ?_
  refine h_imul dX8_free_72 ?_
  refine h_icmp_ge (tgt := 142) dX8_free_73 (by decide) (fun q1 => ?_) (fun q1 => ?_)
  · rw [if_pos q1] at h
    exact h_mask [true, false, true, true, false] (b_X8_free_142 X Q  h E)
  · rw [if_neg q1] at h
    refine h_iload_n dX8_free_76 rfl ?_
    refine h_iconst (-1 : Int32) dX8_free_77 k_iconst_m1 ?_
    refine h_icmp_ne (tgt := 142) dX8_free_78 (by decide) (fun q2 => ?_) (fun q2 => ?_)
    · rw [if_neg q2] at h
      exact h_mask [true, false, true, true, false] (b_X8_free_142 X Q  h E)
    · rw [if_pos q2] at h
      refine h_aload_n dX8_free_81 rfl ?_
      refine g_X8_73  dX8_free_82 ?_
      refine h_aload_n dX8_free_85 rfl ?_
      refine g_X8_314  dX8_free_86 ?_
      refine h_iconst (1 : Int32) dX8_free_89 k_iconst_1 ?_
      refine h_isub dX8_free_90 ?_
      refine h_iload_n dX8_free_91 rfl ?_
      refine h_iload dX8_free_92 rfl ?_
      refine h_aload_n dX8_free_94 rfl ?_
      refine g_X8_34  dX8_free_95 ?_
      refine h_iconst (0 : Int32) dX8_free_98 k_iconst_0 ?_
      refine al_50  0 cl_0 dX8_free_99 rfl ?_
      obtain ⟨g1, h⟩ := gd_some h
      refine h_rem dX8_free_100 g1 ?_
      refine h_iload dX8_free_101 rfl ?_
      refine h_aload_n dX8_free_103 rfl ?_
      refine g_X8_34  dX8_free_104 ?_
      refine h_iconst (0 : Int32) dX8_free_107 k_iconst_0 ?_
      refine al_50  0 cl_0 dX8_free_108 rfl ?_
      refine h_div dX8_free_109 g1 ?_
      obtain ⟨y1, hh1, h⟩ := obd_some h
      refine h_cSv [.inr (.inr (62, 0, 0)), .inl ((I 8 0 0 30) - (1 : Int32)), .inl v1, .inl (jrem v4 (I 50 0 0 0)), .inl (v4 / (I 50 0 0 0))] (m_X8_putRow rfl hh1) cs_X8_443 dX8_free_110 rfl (by decide) rfl (Or.inr rfl) rfl ?_
      refine h_aload_n dX8_free_113 rfl ?_
      refine h_iload_n dX8_free_114 rfl ?_
      obtain ⟨y2, hh2, h⟩ := obd_some h
      refine h_cVv [.inl v1] (m_X8_judgeCase  hh2) cw_X8_401 dX8_free_115 rfl ok_8 (by decide) rfl (Or.inr rfl) rfl ?_
      refine h_aload_n dX8_free_118 rfl ?_
      refine g_X8_117  dX8_free_119 ?_
      refine h_iload_n dX8_free_122 rfl ?_
      obtain ⟨g2, h⟩ := gd_some h
      refine al_75  v1.toNatClampNeg rfl dX8_free_123 g2 ?_
      refine h_ldci (100000 : Int32) dX8_free_124 kc_X8_186 ?_
      refine h_icmp_lt (tgt := 134) dX8_free_126 (by decide) (fun q3 => ?_) (fun q3 => ?_)
      · rw [if_pos q3] at h
        refine h_iconst (-1 : Int32) dX8_free_134 k_iconst_m1 ?_
        refine h_istore_n dX8_free_135 (by decide) rfl ?_
        refine h_iinc (1 : Int32) dX8_free_136 rfl k_iinc_1 (by decide) rfl ?_
        refine h_goto (tgt := 62) dX8_free_139 (by decide) ?_
        exact (H62 _ _ _ _ _ h)
      · rw [if_neg q3] at h
        refine h_iload dX8_free_129 rfl ?_
        refine h_goto (tgt := 135) dX8_free_131 (by decide) ?_
        refine h_istore_n dX8_free_135 (by decide) rfl ?_
        refine h_iinc (1 : Int32) dX8_free_136 rfl k_iinc_1 (by decide) rfl ?_
        refine h_goto (tgt := 62) dX8_free_139 (by decide) ?_
        exact (H62 _ _ _ _ _ h)
def f_X8_free_22   (I : Mem) : Option (Int32 × Mem) :=
  (f_X8_fail I (1 : Int32)).bind fun y1 =>
  some (y1.1, y1.2)
theorem b_X8_free_22 (X : CX) (Q : State → Prop) {I : Mem} {P : PMem} {O : Nat → Int64} {D : Bool} {n : Nat} {r : (Int32 × Mem)}  (h : f_X8_free_22 I = some r) (E : EndR X cX8_free RX8 5 (some .int) 10 n (some (.inl r.1)) r.2 P O D Q) : Here X cX8_free RX8 5 (some .int) 10 n 22 [some (.inr (.inr (8, 0, 0))), none, none, none, none] [] I P O D n Q := by
  unfold f_X8_free_22 at h
  refine h_aload_n dX8_free_22 rfl ?_
  refine h_iconst (1 : Int32) dX8_free_23 k_iconst_1 ?_
  obtain ⟨y1, hh1, h⟩ := obd_some h
  refine h_cVi [.inl (1 : Int32)] (m_X8_fail  hh1) cw_X8_298 dX8_free_24 rfl ok_8 (by decide) rfl (Or.inr rfl) rfl ?_
  cases h
  exact h_iret dX8_free_27 rfl E
def f_X8_free   (I : Mem) (v1 : Int32) (v2 : Int32) : Option (Int32 × Mem) :=
  bnd (upd4 I 8 0 0 2 (0 : Int32)) fun I1' =>
  (f_X8_isCase I1' v1).bind fun y1 =>
  if y1 = 0 then (f_X8_free_22 I1') else (if v2 < 0 then (f_X8_free_22 I1') else (if v2 ≤ (1 : Int32) then ((f_X8_tellNow I1').bind fun y2 =>
  gd (inb v1 6) <|
  if (y2.2 75 0 0 v1.toNatClampNeg) < (100000 : Int32) then (bnd (upd4 y2.2 8 0 0 30 ((y2.2 8 0 0 30) + (1 : Int32))) fun I2' =>
  f_X8_free_62 FU I2' v1 v2 (-1 : Int32) (0 : Int32)) else (some ((-2 : Int32), y2.2))) else (f_X8_free_22 I1')))
theorem b_X8_free (X : CX) (Q : State → Prop) {I : Mem} {P : PMem} {O : Nat → Int64} {D : Bool} {n : Nat} {v1 : Int32} {v2 : Int32} {r : (Int32 × Mem)}  (h : f_X8_free I v1 v2 = some r) (E : EndR X cX8_free RX8 5 (some .int) 10 n (some (.inl r.1)) r.2 P O D Q) : Here X cX8_free RX8 5 (some .int) 10 n 0 [some (.inr (.inr (8, 0, 0))), some (.inl v1), some (.inl v2), none, none] [] I P O D n Q := by
  unfold f_X8_free at h
  refine h_aload_n dX8_free_0 rfl ?_
  refine h_iconst (0 : Int32) dX8_free_1 k_iconst_0 ?_
  obtain ⟨I1', e1, h⟩ := bnd_some h
  refine p_X8_150  dX8_free_2 ?_
  refine h_nmI e1 ?_
  refine h_aload_n dX8_free_5 rfl ?_
  refine h_iload_n dX8_free_6 rfl ?_
  obtain ⟨y1, hh1, h⟩ := obd_some h
  refine h_cVi [.inl v1] (m_X8_isCase  hh1) cw_X8_424 dX8_free_7 rfl ok_8 (by decide) rfl (Or.inr rfl) rfl ?_
  refine h_if_eq (tgt := 22) dX8_free_10 (by decide) (fun q1 => ?_) (fun q1 => ?_)
  · rw [if_pos q1] at h
    exact h_mask [true, false, false, false, false] (b_X8_free_22 X Q  h E)
  · rw [if_neg q1] at h
    refine h_iload_n dX8_free_13 rfl ?_
    refine h_if_lt (tgt := 22) dX8_free_14 (by decide) (fun q2 => ?_) (fun q2 => ?_)
    · rw [if_pos q2] at h
      exact h_mask [true, false, false, false, false] (b_X8_free_22 X Q  h E)
    · rw [if_neg q2] at h
      refine h_iload_n dX8_free_17 rfl ?_
      refine h_iconst (1 : Int32) dX8_free_18 k_iconst_1 ?_
      refine h_icmp_le (tgt := 28) dX8_free_19 (by decide) (fun q3 => ?_) (fun q3 => ?_)
      · rw [if_pos q3] at h
        refine h_aload_n dX8_free_28 rfl ?_
        obtain ⟨y2, hh2, h⟩ := obd_some h
        refine h_cVi [] (m_X8_tellNow  hh2) cw_X8_410 dX8_free_29 rfl ok_8 (by decide) rfl (Or.inr rfl) rfl ?_
        refine h_pop dX8_free_32 (fun _ => rfl) ?_
        refine h_aload_n dX8_free_33 rfl ?_
        refine g_X8_117  dX8_free_34 ?_
        refine h_iload_n dX8_free_37 rfl ?_
        obtain ⟨g1, h⟩ := gd_some h
        refine al_75  v1.toNatClampNeg rfl dX8_free_38 g1 ?_
        refine h_ldci (100000 : Int32) dX8_free_39 kc_X8_186 ?_
        refine h_icmp_lt (tgt := 47) dX8_free_41 (by decide) (fun q4 => ?_) (fun q4 => ?_)
        · rw [if_pos q4] at h
          refine h_aload_n dX8_free_47 rfl ?_
          refine h_dup dX8_free_48 (fun _ => rfl) ?_
          refine g_X8_314  dX8_free_49 ?_
          refine h_iconst (1 : Int32) dX8_free_52 k_iconst_1 ?_
          refine h_iadd dX8_free_53 ?_
          obtain ⟨I2', e2, h⟩ := bnd_some h
          refine p_X8_314  dX8_free_54 ?_
          refine h_nmI e2 ?_
          refine h_iconst (-1 : Int32) dX8_free_57 k_iconst_m1 ?_
          refine h_istore_n dX8_free_58 (by decide) rfl ?_
          refine h_iconst (0 : Int32) dX8_free_59 k_iconst_0 ?_
          refine h_istore dX8_free_60 (by decide) rfl ?_
          exact (b_X8_free_62 X Q FU  h E)
        · rw [if_neg q4] at h
          refine h_bipush (-2 : Int32) dX8_free_44 k_bipush_m2 ?_
          cases h
          exact h_iret dX8_free_46 rfl E
      · rw [if_neg q3] at h
        exact h_mask [true, false, false, false, false] (b_X8_free_22 X Q  h E)
theorem m_X8_free {I : Mem} {P : PMem} {O : Nat → Int64} {D : Bool} {n : Nat} {v1 : Int32} {v2 : Int32} {r : (Int32 × Mem)}  (h : f_X8_free I v1 v2 = some r) : MethR yX8_free cX8_free 5 (some .int) 10 [.inr (.inr (8, 0, 0)), .inl v1, .inl v2] I P O D n (some (.inl r.1)) r.2 P O D n := meth_R (Nat.le_refl _) (by decide) rfl (Nat.le_of_ble_eq_true rfl) rfl (fun X Q E => b_X8_free X Q  h E)
