theorem dX5_readLand_0 : decode cX5_readLand 0 = .ok (.aload_n 0, 1) := by decide +kernel
theorem dX5_readLand_1 : decode cX5_readLand 1 = .ok (.iload_n 1, 1) := by decide +kernel
theorem dX5_readLand_2 : decode cX5_readLand 2 = .ok (.aload_n 0, 1) := by decide +kernel
theorem dX5_readLand_3 : decode cX5_readLand 3 = .ok (.getfield 15, 3) := by decide +kernel
theorem dX5_readLand_6 : decode cX5_readLand 6 = .ok (.arraylength, 1) := by decide +kernel
theorem dX5_readLand_7 : decode cX5_readLand 7 = .ok (.invokestatic 23, 3) := by decide +kernel
theorem dX5_readLand_10 : decode cX5_readLand 10 = .ok (.putfield 29, 3) := by decide +kernel
theorem dX5_readLand_13 : decode cX5_readLand 13 = .ok (.aload_n 0, 1) := by decide +kernel
theorem dX5_readLand_14 : decode cX5_readLand 14 = .ok (.aload_n 2, 1) := by decide +kernel
theorem dX5_readLand_15 : decode cX5_readLand 15 = .ok (.putfield 19, 3) := by decide +kernel
theorem dX5_readLand_18 : decode cX5_readLand 18 = .ok (.aload_n 0, 1) := by decide +kernel
theorem dX5_readLand_19 : decode cX5_readLand 19 = .ok (.getfield 19, 3) := by decide +kernel
theorem dX5_readLand_22 : decode cX5_readLand 22 = .ok (.invokevirtual 32, 3) := by decide +kernel
theorem dX5_readLand_25 : decode cX5_readLand 25 = .ok (.aload_n 0, 1) := by decide +kernel
theorem dX5_readLand_26 : decode cX5_readLand 26 = .ok (.iconst 0, 1) := by decide +kernel
theorem dX5_readLand_27 : decode cX5_readLand 27 = .ok (.putfield 37, 3) := by decide +kernel
theorem dX5_readLand_30 : decode cX5_readLand 30 = .ok (.aload_n 0, 1) := by decide +kernel
theorem dX5_readLand_31 : decode cX5_readLand 31 = .ok (.iconst (-1), 1) := by decide +kernel
theorem dX5_readLand_32 : decode cX5_readLand 32 = .ok (.putfield 9, 3) := by decide +kernel
theorem dX5_readLand_35 : decode cX5_readLand 35 = .ok (.aload_n 0, 1) := by decide +kernel
theorem dX5_readLand_36 : decode cX5_readLand 36 = .ok (.iconst 0, 1) := by decide +kernel
theorem dX5_readLand_37 : decode cX5_readLand 37 = .ok (.putfield 40, 3) := by decide +kernel
theorem dX5_readLand_40 : decode cX5_readLand 40 = .ok (.aload_n 0, 1) := by decide +kernel
theorem dX5_readLand_41 : decode cX5_readLand 41 = .ok (.invokevirtual 43, 3) := by decide +kernel
theorem dX5_readLand_44 : decode cX5_readLand 44 = .ok (.iconst 0, 1) := by decide +kernel
theorem dX5_readLand_45 : decode cX5_readLand 45 = .ok (.istore_n 3, 1) := by decide +kernel
theorem dX5_readLand_46 : decode cX5_readLand 46 = .ok (.iload_n 3, 1) := by decide +kernel
theorem dX5_readLand_47 : decode cX5_readLand 47 = .ok (.sipush 600, 3) := by decide +kernel
theorem dX5_readLand_50 : decode cX5_readLand 50 = .ok (.if_icmp .ge 27, 3) := by decide +kernel
theorem dX5_readLand_53 : decode cX5_readLand 53 = .ok (.aload_n 0, 1) := by decide +kernel
theorem dX5_readLand_54 : decode cX5_readLand 54 = .ok (.getfield 37, 3) := by decide +kernel
theorem dX5_readLand_57 : decode cX5_readLand 57 = .ok (.ifCond .ne 20, 3) := by decide +kernel
theorem dX5_readLand_60 : decode cX5_readLand 60 = .ok (.aload_n 0, 1) := by decide +kernel
theorem dX5_readLand_61 : decode cX5_readLand 61 = .ok (.getfield 46, 3) := by decide +kernel
theorem dX5_readLand_64 : decode cX5_readLand 64 = .ok (.ifCond .eq 13, 3) := by decide +kernel
theorem dX5_readLand_67 : decode cX5_readLand 67 = .ok (.aload_n 0, 1) := by decide +kernel
theorem dX5_readLand_68 : decode cX5_readLand 68 = .ok (.invokevirtual 49, 3) := by decide +kernel
theorem dX5_readLand_71 : decode cX5_readLand 71 = .ok (.iinc 3 1, 3) := by decide +kernel
theorem dX5_readLand_74 : decode cX5_readLand 74 = .ok (.goto (-28), 3) := by decide +kernel
theorem dX5_readLand_77 : decode cX5_readLand 77 = .ok (.aload_n 0, 1) := by decide +kernel
theorem dX5_readLand_78 : decode cX5_readLand 78 = .ok (.getfield 37, 3) := by decide +kernel
theorem dX5_readLand_81 : decode cX5_readLand 81 = .ok (.ifCond .ne 10, 3) := by decide +kernel
theorem dX5_readLand_84 : decode cX5_readLand 84 = .ok (.aload_n 0, 1) := by decide +kernel
theorem dX5_readLand_85 : decode cX5_readLand 85 = .ok (.getfield 19, 3) := by decide +kernel
theorem dX5_readLand_88 : decode cX5_readLand 88 = .ok (.invokevirtual 52, 3) := by decide +kernel
theorem dX5_readLand_91 : decode cX5_readLand 91 = .ok (.return_, 1) := by decide +kernel
theorem dX6_isFull_0 : decode cX6_isFull 0 = .ok (.aload_n 0, 1) := by decide +kernel
theorem dX6_isFull_1 : decode cX6_isFull 1 = .ok (.getfield 25, 3) := by decide +kernel
theorem dX6_isFull_4 : decode cX6_isFull 4 = .ok (.aload_n 0, 1) := by decide +kernel
theorem dX6_isFull_5 : decode cX6_isFull 5 = .ok (.getfield 13, 3) := by decide +kernel
theorem dX6_isFull_8 : decode cX6_isFull 8 = .ok (.arraylength, 1) := by decide +kernel
theorem dX6_isFull_9 : decode cX6_isFull 9 = .ok (.if_icmp .lt 7, 3) := by decide +kernel
theorem dX6_isFull_12 : decode cX6_isFull 12 = .ok (.iconst 1, 1) := by decide +kernel
theorem dX6_isFull_13 : decode cX6_isFull 13 = .ok (.goto 4, 3) := by decide +kernel
theorem dX6_isFull_16 : decode cX6_isFull 16 = .ok (.iconst 0, 1) := by decide +kernel
theorem dX6_isFull_17 : decode cX6_isFull 17 = .ok (.ireturn, 1) := by decide +kernel
theorem dX6_dropFirst_0 : decode cX6_dropFirst 0 = .ok (.aload_n 0, 1) := by decide +kernel
theorem dX6_dropFirst_1 : decode cX6_dropFirst 1 = .ok (.getfield 25, 3) := by decide +kernel
theorem dX6_dropFirst_4 : decode cX6_dropFirst 4 = .ok (.ifCond .le 64, 3) := by decide +kernel
theorem dX6_dropFirst_7 : decode cX6_dropFirst 7 = .ok (.aload_n 0, 1) := by decide +kernel
theorem dX6_dropFirst_8 : decode cX6_dropFirst 8 = .ok (.dup, 1) := by decide +kernel
theorem dX6_dropFirst_9 : decode cX6_dropFirst 9 = .ok (.getfield 25, 3) := by decide +kernel
theorem dX6_dropFirst_12 : decode cX6_dropFirst 12 = .ok (.iconst 1, 1) := by decide +kernel
theorem dX6_dropFirst_13 : decode cX6_dropFirst 13 = .ok (.isub, 1) := by decide +kernel
theorem dX6_dropFirst_14 : decode cX6_dropFirst 14 = .ok (.putfield 25, 3) := by decide +kernel
theorem dX6_dropFirst_17 : decode cX6_dropFirst 17 = .ok (.aload_n 0, 1) := by decide +kernel
theorem dX6_dropFirst_18 : decode cX6_dropFirst 18 = .ok (.getfield 13, 3) := by decide +kernel
theorem dX6_dropFirst_21 : decode cX6_dropFirst 21 = .ok (.iconst 1, 1) := by decide +kernel
theorem dX6_dropFirst_22 : decode cX6_dropFirst 22 = .ok (.aload_n 0, 1) := by decide +kernel
theorem dX6_dropFirst_23 : decode cX6_dropFirst 23 = .ok (.getfield 13, 3) := by decide +kernel
theorem dX6_dropFirst_26 : decode cX6_dropFirst 26 = .ok (.iconst 0, 1) := by decide +kernel
theorem dX6_dropFirst_27 : decode cX6_dropFirst 27 = .ok (.aload_n 0, 1) := by decide +kernel
theorem dX6_dropFirst_28 : decode cX6_dropFirst 28 = .ok (.getfield 25, 3) := by decide +kernel
theorem dX6_dropFirst_31 : decode cX6_dropFirst 31 = .ok (.invokestatic 36, 3) := by decide +kernel
theorem dX6_dropFirst_34 : decode cX6_dropFirst 34 = .ok (.aload_n 0, 1) := by decide +kernel
theorem dX6_dropFirst_35 : decode cX6_dropFirst 35 = .ok (.getfield 19, 3) := by decide +kernel
theorem dX6_dropFirst_38 : decode cX6_dropFirst 38 = .ok (.iconst 1, 1) := by decide +kernel
theorem dX6_dropFirst_39 : decode cX6_dropFirst 39 = .ok (.aload_n 0, 1) := by decide +kernel
theorem dX6_dropFirst_40 : decode cX6_dropFirst 40 = .ok (.getfield 19, 3) := by decide +kernel
theorem dX6_dropFirst_43 : decode cX6_dropFirst 43 = .ok (.iconst 0, 1) := by decide +kernel
theorem dX6_dropFirst_44 : decode cX6_dropFirst 44 = .ok (.aload_n 0, 1) := by decide +kernel
theorem dX6_dropFirst_45 : decode cX6_dropFirst 45 = .ok (.getfield 25, 3) := by decide +kernel
theorem dX6_dropFirst_48 : decode cX6_dropFirst 48 = .ok (.invokestatic 36, 3) := by decide +kernel
theorem dX6_dropFirst_51 : decode cX6_dropFirst 51 = .ok (.aload_n 0, 1) := by decide +kernel
theorem dX6_dropFirst_52 : decode cX6_dropFirst 52 = .ok (.getfield 22, 3) := by decide +kernel
theorem dX6_dropFirst_55 : decode cX6_dropFirst 55 = .ok (.iconst 1, 1) := by decide +kernel
theorem dX6_dropFirst_56 : decode cX6_dropFirst 56 = .ok (.aload_n 0, 1) := by decide +kernel
theorem dX6_dropFirst_57 : decode cX6_dropFirst 57 = .ok (.getfield 22, 3) := by decide +kernel
theorem dX6_dropFirst_60 : decode cX6_dropFirst 60 = .ok (.iconst 0, 1) := by decide +kernel
theorem dX6_dropFirst_61 : decode cX6_dropFirst 61 = .ok (.aload_n 0, 1) := by decide +kernel
theorem dX6_dropFirst_62 : decode cX6_dropFirst 62 = .ok (.getfield 25, 3) := by decide +kernel
theorem dX6_dropFirst_65 : decode cX6_dropFirst 65 = .ok (.invokestatic 36, 3) := by decide +kernel
theorem dX6_dropFirst_68 : decode cX6_dropFirst 68 = .ok (.return_, 1) := by decide +kernel
theorem dX6_add_0 : decode cX6_add 0 = .ok (.aload_n 0, 1) := by decide +kernel
theorem dX6_add_1 : decode cX6_add 1 = .ok (.invokevirtual 29, 3) := by decide +kernel
theorem dX6_add_4 : decode cX6_add 4 = .ok (.ifCond .eq 7, 3) := by decide +kernel
theorem dX6_add_7 : decode cX6_add 7 = .ok (.aload_n 0, 1) := by decide +kernel
theorem dX6_add_8 : decode cX6_add 8 = .ok (.invokevirtual 33, 3) := by decide +kernel
theorem dX6_add_11 : decode cX6_add 11 = .ok (.aload_n 0, 1) := by decide +kernel
theorem dX6_add_12 : decode cX6_add 12 = .ok (.getfield 13, 3) := by decide +kernel
theorem dX6_add_15 : decode cX6_add 15 = .ok (.aload_n 0, 1) := by decide +kernel
theorem dX6_add_16 : decode cX6_add 16 = .ok (.getfield 25, 3) := by decide +kernel
theorem dX6_add_19 : decode cX6_add 19 = .ok (.iload_n 1, 1) := by decide +kernel
theorem dX6_add_20 : decode cX6_add 20 = .ok (.iastore, 1) := by decide +kernel
theorem dX6_add_21 : decode cX6_add 21 = .ok (.aload_n 0, 1) := by decide +kernel
theorem dX6_add_22 : decode cX6_add 22 = .ok (.getfield 19, 3) := by decide +kernel
theorem dX6_add_25 : decode cX6_add 25 = .ok (.aload_n 0, 1) := by decide +kernel
theorem dX6_add_26 : decode cX6_add 26 = .ok (.getfield 25, 3) := by decide +kernel
theorem dX6_add_29 : decode cX6_add 29 = .ok (.iload_n 2, 1) := by decide +kernel
theorem dX6_add_30 : decode cX6_add 30 = .ok (.iastore, 1) := by decide +kernel
theorem dX6_add_31 : decode cX6_add 31 = .ok (.aload_n 0, 1) := by decide +kernel
theorem dX6_add_32 : decode cX6_add 32 = .ok (.getfield 22, 3) := by decide +kernel
theorem dX6_add_35 : decode cX6_add 35 = .ok (.aload_n 0, 1) := by decide +kernel
theorem dX6_add_36 : decode cX6_add 36 = .ok (.getfield 25, 3) := by decide +kernel
theorem dX6_add_39 : decode cX6_add 39 = .ok (.iload_n 3, 1) := by decide +kernel
theorem dX6_add_40 : decode cX6_add 40 = .ok (.iastore, 1) := by decide +kernel
theorem dX6_add_41 : decode cX6_add 41 = .ok (.aload_n 0, 1) := by decide +kernel
theorem dX6_add_42 : decode cX6_add 42 = .ok (.dup, 1) := by decide +kernel
theorem dX6_add_43 : decode cX6_add 43 = .ok (.getfield 25, 3) := by decide +kernel
theorem dX6_add_46 : decode cX6_add 46 = .ok (.iconst 1, 1) := by decide +kernel
theorem dX6_add_47 : decode cX6_add 47 = .ok (.iadd, 1) := by decide +kernel
theorem dX6_add_48 : decode cX6_add 48 = .ok (.putfield 25, 3) := by decide +kernel
theorem dX6_add_51 : decode cX6_add 51 = .ok (.return_, 1) := by decide +kernel
theorem dX7_putBytes_0 : decode cX7_putBytes 0 = .ok (.bipush 24, 2) := by decide +kernel
theorem dX7_putBytes_2 : decode cX7_putBytes 2 = .ok (.istore_n 2, 1) := by decide +kernel
theorem dX7_putBytes_3 : decode cX7_putBytes 3 = .ok (.iload_n 2, 1) := by decide +kernel
theorem dX7_putBytes_4 : decode cX7_putBytes 4 = .ok (.ifCond .lt 42, 3) := by decide +kernel
theorem dX7_putBytes_7 : decode cX7_putBytes 7 = .ok (.aload_n 0, 1) := by decide +kernel
theorem dX7_putBytes_8 : decode cX7_putBytes 8 = .ok (.getfield 58, 3) := by decide +kernel
theorem dX7_putBytes_11 : decode cX7_putBytes 11 = .ok (.sipush 600, 3) := by decide +kernel
theorem dX7_putBytes_14 : decode cX7_putBytes 14 = .ok (.if_icmp .ge 32, 3) := by decide +kernel
theorem dX7_putBytes_17 : decode cX7_putBytes 17 = .ok (.aload_n 0, 1) := by decide +kernel
theorem dX7_putBytes_18 : decode cX7_putBytes 18 = .ok (.getfield 9, 3) := by decide +kernel
theorem dX7_putBytes_21 : decode cX7_putBytes 21 = .ok (.aload_n 0, 1) := by decide +kernel
theorem dX7_putBytes_22 : decode cX7_putBytes 22 = .ok (.getfield 58, 3) := by decide +kernel
theorem dX7_putBytes_25 : decode cX7_putBytes 25 = .ok (.iload_n 1, 1) := by decide +kernel
theorem dX7_putBytes_26 : decode cX7_putBytes 26 = .ok (.iload_n 2, 1) := by decide +kernel
theorem dX7_putBytes_27 : decode cX7_putBytes 27 = .ok (.iushr, 1) := by decide +kernel
theorem dX7_putBytes_28 : decode cX7_putBytes 28 = .ok (.i2b, 1) := by decide +kernel
theorem dX7_putBytes_29 : decode cX7_putBytes 29 = .ok (.bastore, 1) := by decide +kernel
theorem dX7_putBytes_30 : decode cX7_putBytes 30 = .ok (.aload_n 0, 1) := by decide +kernel
theorem dX7_putBytes_31 : decode cX7_putBytes 31 = .ok (.dup, 1) := by decide +kernel
theorem dX7_putBytes_32 : decode cX7_putBytes 32 = .ok (.getfield 58, 3) := by decide +kernel
theorem dX7_putBytes_35 : decode cX7_putBytes 35 = .ok (.iconst 1, 1) := by decide +kernel
theorem dX7_putBytes_36 : decode cX7_putBytes 36 = .ok (.iadd, 1) := by decide +kernel
theorem dX7_putBytes_37 : decode cX7_putBytes 37 = .ok (.putfield 58, 3) := by decide +kernel
theorem dX7_putBytes_40 : decode cX7_putBytes 40 = .ok (.iinc 2 (-8), 3) := by decide +kernel
theorem dX7_putBytes_43 : decode cX7_putBytes 43 = .ok (.goto (-40), 3) := by decide +kernel
theorem dX7_putBytes_46 : decode cX7_putBytes 46 = .ok (.return_, 1) := by decide +kernel
theorem dX7_feed_0 : decode cX7_feed 0 = .ok (.aload_n 0, 1) := by decide +kernel
theorem dX7_feed_1 : decode cX7_feed 1 = .ok (.getfield 58, 3) := by decide +kernel
theorem dX7_feed_4 : decode cX7_feed 4 = .ok (.bipush 20, 2) := by decide +kernel
theorem dX7_feed_6 : decode cX7_feed 6 = .ok (.iadd, 1) := by decide +kernel
theorem dX7_feed_7 : decode cX7_feed 7 = .ok (.sipush 600, 3) := by decide +kernel
theorem dX7_feed_10 : decode cX7_feed 10 = .ok (.if_icmp .le 5, 3) := by decide +kernel
theorem dX7_feed_13 : decode cX7_feed 13 = .ok (.iconst (-1), 1) := by decide +kernel
theorem dX7_feed_14 : decode cX7_feed 14 = .ok (.ireturn, 1) := by decide +kernel
theorem dX7_feed_15 : decode cX7_feed 15 = .ok (.aload_n 0, 1) := by decide +kernel
theorem dX7_feed_16 : decode cX7_feed 16 = .ok (.iload_n 1, 1) := by decide +kernel
theorem dX7_feed_17 : decode cX7_feed 17 = .ok (.invokevirtual 61, 3) := by decide +kernel
theorem dX7_feed_20 : decode cX7_feed 20 = .ok (.aload_n 0, 1) := by decide +kernel
theorem dX7_feed_21 : decode cX7_feed 21 = .ok (.iload_n 2, 1) := by decide +kernel
theorem dX7_feed_22 : decode cX7_feed 22 = .ok (.invokevirtual 61, 3) := by decide +kernel
theorem dX7_feed_25 : decode cX7_feed 25 = .ok (.aload_n 0, 1) := by decide +kernel
theorem dX7_feed_26 : decode cX7_feed 26 = .ok (.iload_n 3, 1) := by decide +kernel
theorem dX7_feed_27 : decode cX7_feed 27 = .ok (.invokevirtual 61, 3) := by decide +kernel
theorem dX7_feed_30 : decode cX7_feed 30 = .ok (.aload_n 0, 1) := by decide +kernel
theorem dX7_feed_31 : decode cX7_feed 31 = .ok (.iload 4, 2) := by decide +kernel
theorem dX7_feed_33 : decode cX7_feed 33 = .ok (.invokevirtual 61, 3) := by decide +kernel
theorem dX7_feed_36 : decode cX7_feed 36 = .ok (.aload_n 0, 1) := by decide +kernel
theorem dX7_feed_37 : decode cX7_feed 37 = .ok (.iload 5, 2) := by decide +kernel
theorem dX7_feed_39 : decode cX7_feed 39 = .ok (.invokevirtual 61, 3) := by decide +kernel
theorem dX7_feed_42 : decode cX7_feed 42 = .ok (.aload_n 0, 1) := by decide +kernel
theorem dX7_feed_43 : decode cX7_feed 43 = .ok (.getfield 58, 3) := by decide +kernel
theorem dX7_feed_46 : decode cX7_feed 46 = .ok (.ireturn, 1) := by decide +kernel
theorem dX7_land_0 : decode cX7_land 0 = .ok (.iload_n 1, 1) := by decide +kernel
theorem dX7_land_1 : decode cX7_land 1 = .ok (.ifCond .lt 11, 3) := by decide +kernel
theorem dX7_land_4 : decode cX7_land 4 = .ok (.iload_n 1, 1) := by decide +kernel
theorem dX7_land_5 : decode cX7_land 5 = .ok (.aload_n 0, 1) := by decide +kernel
theorem dX7_land_6 : decode cX7_land 6 = .ok (.getfield 58, 3) := by decide +kernel
theorem dX7_land_9 : decode cX7_land 9 = .ok (.if_icmp .le 13, 3) := by decide +kernel
theorem dX7_land_12 : decode cX7_land 12 = .ok (.new 65, 3) := by decide +kernel
theorem dX7_land_15 : decode cX7_land 15 = .ok (.dup, 1) := by decide +kernel
theorem dX7_land_16 : decode cX7_land 16 = .ok (.ldc 67, 2) := by decide +kernel
theorem dX7_land_18 : decode cX7_land 18 = .ok (.invokespecial 69, 3) := by decide +kernel
theorem dX7_land_21 : decode cX7_land 21 = .ok (.athrow, 1) := by decide +kernel
theorem dX7_land_22 : decode cX7_land 22 = .ok (.aload_n 0, 1) := by decide +kernel
theorem dX7_land_23 : decode cX7_land 23 = .ok (.iconst 0, 1) := by decide +kernel
theorem dX7_land_24 : decode cX7_land 24 = .ok (.putfield 58, 3) := by decide +kernel
theorem dX7_land_27 : decode cX7_land 27 = .ok (.aload_n 0, 1) := by decide +kernel
theorem dX7_land_28 : decode cX7_land 28 = .ok (.getfield 28, 3) := by decide +kernel
theorem dX7_land_31 : decode cX7_land 31 = .ok (.iload_n 1, 1) := by decide +kernel
theorem dX7_land_32 : decode cX7_land 32 = .ok (.aload_n 0, 1) := by decide +kernel
theorem dX7_land_33 : decode cX7_land 33 = .ok (.getfield 20, 3) := by decide +kernel
theorem dX7_land_36 : decode cX7_land 36 = .ok (.invokevirtual 72, 3) := by decide +kernel
theorem dX7_land_39 : decode cX7_land 39 = .ok (.aload_n 0, 1) := by decide +kernel
theorem dX7_land_40 : decode cX7_land 40 = .ok (.aload_n 0, 1) := by decide +kernel
theorem dX7_land_41 : decode cX7_land 41 = .ok (.getfield 28, 3) := by decide +kernel
theorem dX7_land_44 : decode cX7_land 44 = .ok (.getfield 76, 3) := by decide +kernel
theorem dX7_land_47 : decode cX7_land 47 = .ok (.putfield 54, 3) := by decide +kernel
theorem dX7_land_50 : decode cX7_land 50 = .ok (.aload_n 0, 1) := by decide +kernel
theorem dX7_land_51 : decode cX7_land 51 = .ok (.getfield 28, 3) := by decide +kernel
theorem dX7_land_54 : decode cX7_land 54 = .ok (.getfield 79, 3) := by decide +kernel
theorem dX7_land_57 : decode cX7_land 57 = .ok (.ifCond .eq 24, 3) := by decide +kernel
theorem dX7_land_60 : decode cX7_land 60 = .ok (.aload_n 0, 1) := by decide +kernel
theorem dX7_land_61 : decode cX7_land 61 = .ok (.getfield 35, 3) := by decide +kernel
theorem dX7_land_64 : decode cX7_land 64 = .ok (.getfield 82, 3) := by decide +kernel
theorem dX7_land_67 : decode cX7_land 67 = .ok (.iconst 0, 1) := by decide +kernel
theorem dX7_land_68 : decode cX7_land 68 = .ok (.dup2, 1) := by decide +kernel
theorem dX7_land_69 : decode cX7_land 69 = .ok (.iaload, 1) := by decide +kernel
theorem dX7_land_70 : decode cX7_land 70 = .ok (.iconst 1, 1) := by decide +kernel
theorem dX7_land_71 : decode cX7_land 71 = .ok (.iadd, 1) := by decide +kernel
theorem dX7_land_72 : decode cX7_land 72 = .ok (.iastore, 1) := by decide +kernel
theorem dX7_land_73 : decode cX7_land 73 = .ok (.aload_n 0, 1) := by decide +kernel
theorem dX7_land_74 : decode cX7_land 74 = .ok (.getfield 28, 3) := by decide +kernel
theorem dX7_land_77 : decode cX7_land 77 = .ok (.getfield 79, 3) := by decide +kernel
theorem dX7_land_80 : decode cX7_land 80 = .ok (.ireturn, 1) := by decide +kernel
theorem dX7_land_81 : decode cX7_land 81 = .ok (.aload_n 0, 1) := by decide +kernel
theorem dX7_land_82 : decode cX7_land 82 = .ok (.getfield 16, 3) := by decide +kernel
theorem dX7_land_85 : decode cX7_land 85 = .ok (.astore_n 2, 1) := by decide +kernel
theorem dX7_land_86 : decode cX7_land 86 = .ok (.aload_n 0, 1) := by decide +kernel
theorem dX7_land_87 : decode cX7_land 87 = .ok (.aload_n 0, 1) := by decide +kernel
theorem dX7_land_88 : decode cX7_land 88 = .ok (.getfield 20, 3) := by decide +kernel
theorem dX7_land_91 : decode cX7_land 91 = .ok (.putfield 16, 3) := by decide +kernel
theorem dX7_land_94 : decode cX7_land 94 = .ok (.aload_n 0, 1) := by decide +kernel
theorem dX7_land_95 : decode cX7_land 95 = .ok (.aload_n 2, 1) := by decide +kernel
theorem dX7_land_96 : decode cX7_land 96 = .ok (.putfield 20, 3) := by decide +kernel
theorem dX7_land_99 : decode cX7_land 99 = .ok (.aload_n 0, 1) := by decide +kernel
theorem dX7_land_100 : decode cX7_land 100 = .ok (.getfield 35, 3) := by decide +kernel
theorem dX7_land_103 : decode cX7_land 103 = .ok (.aload_n 0, 1) := by decide +kernel
theorem dX7_land_104 : decode cX7_land 104 = .ok (.getfield 16, 3) := by decide +kernel
theorem dX7_land_107 : decode cX7_land 107 = .ok (.invokevirtual 86, 3) := by decide +kernel
theorem dX7_land_110 : decode cX7_land 110 = .ok (.aload_n 0, 1) := by decide +kernel
theorem dX7_land_111 : decode cX7_land 111 = .ok (.iconst 0, 1) := by decide +kernel
theorem dX7_land_112 : decode cX7_land 112 = .ok (.putfield 90, 3) := by decide +kernel
theorem dX7_land_115 : decode cX7_land 115 = .ok (.aload_n 0, 1) := by decide +kernel
theorem dX7_land_116 : decode cX7_land 116 = .ok (.iconst 0, 1) := by decide +kernel
theorem dX7_land_117 : decode cX7_land 117 = .ok (.putfield 94, 3) := by decide +kernel
theorem dX7_land_120 : decode cX7_land 120 = .ok (.iconst 0, 1) := by decide +kernel
theorem dX7_land_121 : decode cX7_land 121 = .ok (.ireturn, 1) := by decide +kernel
theorem dX7_fault_0 : decode cX7_fault 0 = .ok (.aload_n 0, 1) := by decide +kernel
theorem dX7_fault_1 : decode cX7_fault 1 = .ok (.getfield 54, 3) := by decide +kernel
theorem dX7_fault_4 : decode cX7_fault 4 = .ok (.ireturn, 1) := by decide +kernel
theorem dX7_settledCourt_0 : decode cX7_settledCourt 0 = .ok (.aload_n 0, 1) := by decide +kernel
theorem dX7_settledCourt_1 : decode cX7_settledCourt 1 = .ok (.getfield 94, 3) := by decide +kernel
theorem dX7_settledCourt_4 : decode cX7_settledCourt 4 = .ok (.ifCond .ne 30, 3) := by decide +kernel
theorem dX7_settledCourt_7 : decode cX7_settledCourt 7 = .ok (.aload_n 0, 1) := by decide +kernel
theorem dX7_settledCourt_8 : decode cX7_settledCourt 8 = .ok (.getfield 47, 3) := by decide +kernel
theorem dX7_settledCourt_11 : decode cX7_settledCourt 11 = .ok (.aload_n 0, 1) := by decide +kernel
theorem dX7_settledCourt_12 : decode cX7_settledCourt 12 = .ok (.getfield 16, 3) := by decide +kernel
theorem dX7_settledCourt_15 : decode cX7_settledCourt 15 = .ok (.aload_n 0, 1) := by decide +kernel
theorem dX7_settledCourt_16 : decode cX7_settledCourt 16 = .ok (.getfield 35, 3) := by decide +kernel
theorem dX7_settledCourt_19 : decode cX7_settledCourt 19 = .ok (.invokevirtual 247, 3) := by decide +kernel
theorem dX7_settledCourt_22 : decode cX7_settledCourt 22 = .ok (.aload_n 0, 1) := by decide +kernel
theorem dX7_settledCourt_23 : decode cX7_settledCourt 23 = .ok (.getfield 47, 3) := by decide +kernel
theorem dX7_settledCourt_26 : decode cX7_settledCourt 26 = .ok (.invokevirtual 263, 3) := by decide +kernel
theorem dX7_settledCourt_29 : decode cX7_settledCourt 29 = .ok (.aload_n 0, 1) := by decide +kernel
theorem dX7_settledCourt_30 : decode cX7_settledCourt 30 = .ok (.iconst 1, 1) := by decide +kernel
theorem dX7_settledCourt_31 : decode cX7_settledCourt 31 = .ok (.putfield 94, 3) := by decide +kernel
theorem dX7_settledCourt_34 : decode cX7_settledCourt 34 = .ok (.aload_n 0, 1) := by decide +kernel
theorem dX7_settledCourt_35 : decode cX7_settledCourt 35 = .ok (.getfield 47, 3) := by decide +kernel
theorem dX7_settledCourt_38 : decode cX7_settledCourt 38 = .ok (.areturn, 1) := by decide +kernel
theorem dX7_count_0 : decode cX7_count 0 = .ok (.iload_n 1, 1) := by decide +kernel
theorem dX7_count_1 : decode cX7_count 1 = .ok (.tableswitch 225 0 15 #[79, 87, 95, 103, 111, 119, 127, 138, 149, 160, 168, 179, 190, 195, 205, 215], 79) := by decide +kernel
theorem dX7_count_80 : decode cX7_count 80 = .ok (.aload_n 0, 1) := by decide +kernel
theorem dX7_count_81 : decode cX7_count 81 = .ok (.getfield 16, 3) := by decide +kernel
theorem dX7_count_84 : decode cX7_count 84 = .ok (.getfield 97, 3) := by decide +kernel
theorem dX7_count_87 : decode cX7_count 87 = .ok (.ireturn, 1) := by decide +kernel
theorem dX7_count_88 : decode cX7_count 88 = .ok (.aload_n 0, 1) := by decide +kernel
theorem dX7_count_89 : decode cX7_count 89 = .ok (.getfield 16, 3) := by decide +kernel
theorem dX7_count_92 : decode cX7_count 92 = .ok (.getfield 100, 3) := by decide +kernel
theorem dX7_count_95 : decode cX7_count 95 = .ok (.ireturn, 1) := by decide +kernel
theorem dX7_count_96 : decode cX7_count 96 = .ok (.aload_n 0, 1) := by decide +kernel
theorem dX7_count_97 : decode cX7_count 97 = .ok (.getfield 16, 3) := by decide +kernel
theorem dX7_count_100 : decode cX7_count 100 = .ok (.invokevirtual 103, 3) := by decide +kernel
theorem dX7_count_103 : decode cX7_count 103 = .ok (.ireturn, 1) := by decide +kernel
theorem dX7_count_104 : decode cX7_count 104 = .ok (.aload_n 0, 1) := by decide +kernel
theorem dX7_count_105 : decode cX7_count 105 = .ok (.getfield 16, 3) := by decide +kernel
theorem dX7_count_108 : decode cX7_count 108 = .ok (.getfield 107, 3) := by decide +kernel
theorem dX7_count_111 : decode cX7_count 111 = .ok (.ireturn, 1) := by decide +kernel
theorem dX7_count_112 : decode cX7_count 112 = .ok (.aload_n 0, 1) := by decide +kernel
theorem dX7_count_113 : decode cX7_count 113 = .ok (.getfield 16, 3) := by decide +kernel
theorem dX7_count_116 : decode cX7_count 116 = .ok (.getfield 110, 3) := by decide +kernel
theorem dX7_count_119 : decode cX7_count 119 = .ok (.ireturn, 1) := by decide +kernel
theorem dX7_count_120 : decode cX7_count 120 = .ok (.aload_n 0, 1) := by decide +kernel
theorem dX7_count_121 : decode cX7_count 121 = .ok (.getfield 35, 3) := by decide +kernel
theorem dX7_count_124 : decode cX7_count 124 = .ok (.getfield 113, 3) := by decide +kernel
theorem dX7_count_127 : decode cX7_count 127 = .ok (.ireturn, 1) := by decide +kernel
theorem dX7_count_128 : decode cX7_count 128 = .ok (.aload_n 0, 1) := by decide +kernel
theorem dX7_count_129 : decode cX7_count 129 = .ok (.getfield 35, 3) := by decide +kernel
theorem dX7_count_132 : decode cX7_count 132 = .ok (.getfield 116, 3) := by decide +kernel
theorem dX7_count_135 : decode cX7_count 135 = .ok (.getfield 120, 3) := by decide +kernel
theorem dX7_count_138 : decode cX7_count 138 = .ok (.ireturn, 1) := by decide +kernel
theorem dX7_count_139 : decode cX7_count 139 = .ok (.aload_n 0, 1) := by decide +kernel
theorem dX7_count_140 : decode cX7_count 140 = .ok (.getfield 35, 3) := by decide +kernel
theorem dX7_count_143 : decode cX7_count 143 = .ok (.getfield 125, 3) := by decide +kernel
theorem dX7_count_146 : decode cX7_count 146 = .ok (.getfield 120, 3) := by decide +kernel
theorem dX7_count_149 : decode cX7_count 149 = .ok (.ireturn, 1) := by decide +kernel
theorem dX7_count_150 : decode cX7_count 150 = .ok (.aload_n 0, 1) := by decide +kernel
theorem dX7_count_151 : decode cX7_count 151 = .ok (.getfield 35, 3) := by decide +kernel
theorem dX7_count_154 : decode cX7_count 154 = .ok (.getfield 128, 3) := by decide +kernel
theorem dX7_count_157 : decode cX7_count 157 = .ok (.getfield 120, 3) := by decide +kernel
theorem dX7_count_160 : decode cX7_count 160 = .ok (.ireturn, 1) := by decide +kernel
theorem dX7_count_161 : decode cX7_count 161 = .ok (.aload_n 0, 1) := by decide +kernel
theorem dX7_count_162 : decode cX7_count 162 = .ok (.invokevirtual 131, 3) := by decide +kernel
theorem dX7_count_165 : decode cX7_count 165 = .ok (.invokevirtual 135, 3) := by decide +kernel
theorem dX7_count_168 : decode cX7_count 168 = .ok (.ireturn, 1) := by decide +kernel
theorem dX7_count_169 : decode cX7_count 169 = .ok (.aload_n 0, 1) := by decide +kernel
theorem dX7_count_170 : decode cX7_count 170 = .ok (.getfield 35, 3) := by decide +kernel
theorem dX7_count_173 : decode cX7_count 173 = .ok (.getfield 138, 3) := by decide +kernel
theorem dX7_count_176 : decode cX7_count 176 = .ok (.getfield 120, 3) := by decide +kernel
theorem dX7_count_179 : decode cX7_count 179 = .ok (.ireturn, 1) := by decide +kernel
theorem dX7_count_180 : decode cX7_count 180 = .ok (.aload_n 0, 1) := by decide +kernel
theorem dX7_count_181 : decode cX7_count 181 = .ok (.getfield 35, 3) := by decide +kernel
theorem dX7_count_184 : decode cX7_count 184 = .ok (.getfield 141, 3) := by decide +kernel
theorem dX7_count_187 : decode cX7_count 187 = .ok (.getfield 120, 3) := by decide +kernel
theorem dX7_count_190 : decode cX7_count 190 = .ok (.ireturn, 1) := by decide +kernel
theorem dX7_count_191 : decode cX7_count 191 = .ok (.aload_n 0, 1) := by decide +kernel
theorem dX7_count_192 : decode cX7_count 192 = .ok (.getfield 58, 3) := by decide +kernel
theorem dX7_count_195 : decode cX7_count 195 = .ok (.ireturn, 1) := by decide +kernel
theorem dX7_count_196 : decode cX7_count 196 = .ok (.aload_n 0, 1) := by decide +kernel
theorem dX7_count_197 : decode cX7_count 197 = .ok (.getfield 35, 3) := by decide +kernel
theorem dX7_count_200 : decode cX7_count 200 = .ok (.getfield 82, 3) := by decide +kernel
theorem dX7_count_203 : decode cX7_count 203 = .ok (.iconst 0, 1) := by decide +kernel
theorem dX7_count_204 : decode cX7_count 204 = .ok (.iaload, 1) := by decide +kernel
theorem dX7_count_205 : decode cX7_count 205 = .ok (.ireturn, 1) := by decide +kernel
theorem dX7_count_206 : decode cX7_count 206 = .ok (.aload_n 0, 1) := by decide +kernel
theorem dX7_count_207 : decode cX7_count 207 = .ok (.getfield 35, 3) := by decide +kernel
theorem dX7_count_210 : decode cX7_count 210 = .ok (.getfield 82, 3) := by decide +kernel
theorem dX7_count_213 : decode cX7_count 213 = .ok (.iconst 1, 1) := by decide +kernel
theorem dX7_count_214 : decode cX7_count 214 = .ok (.iaload, 1) := by decide +kernel
theorem dX7_count_215 : decode cX7_count 215 = .ok (.ireturn, 1) := by decide +kernel
theorem dX7_count_216 : decode cX7_count 216 = .ok (.aload_n 0, 1) := by decide +kernel
theorem dX7_count_217 : decode cX7_count 217 = .ok (.getfield 35, 3) := by decide +kernel
theorem dX7_count_220 : decode cX7_count 220 = .ok (.getfield 82, 3) := by decide +kernel
theorem dX7_count_223 : decode cX7_count 223 = .ok (.iconst 2, 1) := by decide +kernel
theorem dX7_count_224 : decode cX7_count 224 = .ok (.iaload, 1) := by decide +kernel
theorem dX7_count_225 : decode cX7_count 225 = .ok (.ireturn, 1) := by decide +kernel
theorem dX7_count_226 : decode cX7_count 226 = .ok (.new 144, 3) := by decide +kernel
theorem dX7_count_229 : decode cX7_count 229 = .ok (.dup, 1) := by decide +kernel
theorem dX7_count_230 : decode cX7_count 230 = .ok (.ldc 146, 2) := by decide +kernel
theorem dX7_count_232 : decode cX7_count 232 = .ok (.invokespecial 148, 3) := by decide +kernel
theorem dX7_count_235 : decode cX7_count 235 = .ok (.athrow, 1) := by decide +kernel
theorem dX7_requireTown_0 : decode cX7_requireTown 0 = .ok (.iload_n 1, 1) := by decide +kernel
theorem dX7_requireTown_1 : decode cX7_requireTown 1 = .ok (.ifCond .lt 14, 3) := by decide +kernel
theorem dX7_requireTown_4 : decode cX7_requireTown 4 = .ok (.iload_n 1, 1) := by decide +kernel
theorem dX7_requireTown_5 : decode cX7_requireTown 5 = .ok (.aload_n 0, 1) := by decide +kernel
theorem dX7_requireTown_6 : decode cX7_requireTown 6 = .ok (.getfield 16, 3) := by decide +kernel
theorem dX7_requireTown_9 : decode cX7_requireTown 9 = .ok (.getfield 97, 3) := by decide +kernel
theorem dX7_requireTown_12 : decode cX7_requireTown 12 = .ok (.if_icmp .lt 14, 3) := by decide +kernel
theorem dX7_requireTown_15 : decode cX7_requireTown 15 = .ok (.new 144, 3) := by decide +kernel
theorem dX7_requireTown_18 : decode cX7_requireTown 18 = .ok (.dup, 1) := by decide +kernel
theorem dX7_requireTown_19 : decode cX7_requireTown 19 = .ok (.ldc_w 318, 3) := by decide +kernel
theorem dX7_requireTown_22 : decode cX7_requireTown 22 = .ok (.invokespecial 148, 3) := by decide +kernel
theorem dX7_requireTown_25 : decode cX7_requireTown 25 = .ok (.athrow, 1) := by decide +kernel
theorem dX7_requireTown_26 : decode cX7_requireTown 26 = .ok (.return_, 1) := by decide +kernel
theorem dX7_isOutside_0 : decode cX7_isOutside 0 = .ok (.iload_n 0, 1) := by decide +kernel
theorem dX7_isOutside_1 : decode cX7_isOutside 1 = .ok (.ifCond .lt 8, 3) := by decide +kernel
theorem dX7_isOutside_4 : decode cX7_isOutside 4 = .ok (.iload_n 0, 1) := by decide +kernel
theorem dX7_isOutside_5 : decode cX7_isOutside 5 = .ok (.iload_n 1, 1) := by decide +kernel
theorem dX7_isOutside_6 : decode cX7_isOutside 6 = .ok (.if_icmp .le 7, 3) := by decide +kernel
theorem dX7_isOutside_9 : decode cX7_isOutside 9 = .ok (.iconst 1, 1) := by decide +kernel
theorem dX7_isOutside_10 : decode cX7_isOutside 10 = .ok (.goto 4, 3) := by decide +kernel
theorem dX7_isOutside_13 : decode cX7_isOutside 13 = .ok (.iconst 0, 1) := by decide +kernel
theorem dX7_isOutside_14 : decode cX7_isOutside 14 = .ok (.ireturn, 1) := by decide +kernel
theorem dX7_requireWhat_0 : decode cX7_requireWhat 0 = .ok (.iload_n 0, 1) := by decide +kernel
theorem dX7_requireWhat_1 : decode cX7_requireWhat 1 = .ok (.iload_n 1, 1) := by decide +kernel
theorem dX7_requireWhat_2 : decode cX7_requireWhat 2 = .ok (.invokestatic 226, 3) := by decide +kernel
theorem dX7_requireWhat_5 : decode cX7_requireWhat 5 = .ok (.ifCond .eq 14, 3) := by decide +kernel
theorem dX7_requireWhat_8 : decode cX7_requireWhat 8 = .ok (.new 144, 3) := by decide +kernel
theorem dX7_requireWhat_11 : decode cX7_requireWhat 11 = .ok (.dup, 1) := by decide +kernel
theorem dX7_requireWhat_12 : decode cX7_requireWhat 12 = .ok (.ldc_w 324, 3) := by decide +kernel
theorem dX7_requireWhat_15 : decode cX7_requireWhat 15 = .ok (.invokespecial 148, 3) := by decide +kernel
theorem dX7_requireWhat_18 : decode cX7_requireWhat 18 = .ok (.athrow, 1) := by decide +kernel
theorem dX7_requireWhat_19 : decode cX7_requireWhat 19 = .ok (.return_, 1) := by decide +kernel
def f_X5_readLand_77  (z2 : Nat) (I : Mem) (P : PMem) : Option ((Mem × PMem) ⊕ Nat) :=
  if (I 5 0 0 0) = 0 then (gd (decide ((P 5 0 0 4) < 2)) <|
  (f_X3_measureWays (P 5 0 0 4) I).bind fun y1 =>
  some (Sum.inl (y1, P))) else (some (Sum.inl (I, P)))
theorem b_X5_readLand_77 (X : CX) (Q : State → Prop) {I : Mem} {P : PMem} {O : Nat → Int64} {D : Bool} {n : Nat} {z2 : Nat} {r : (Mem × PMem)}  (hz2 : z2 < 2) (h : f_X5_readLand_77 z2 I P = some (Sum.inl r)) (E : EndR X cX5_readLand RX5 4 (none) 163 n none r.1 r.2 O D Q) : Here X cX5_readLand RX5 4 (none) 163 n 77 [some (.inr (.inr (5, 0, 0))), none, none, none] [] I P O D n Q := by
  unfold f_X5_readLand_77 at h
  refine h_aload_n dX5_readLand_77 rfl ?_
  refine g_X5_37  dX5_readLand_78 ?_
  refine h_if_ne (tgt := 91) dX5_readLand_81 (by decide) (fun q1 => ?_) (fun q1 => ?_)
  · rw [if_neg q1] at h
    cases h
    exact h_vret dX5_readLand_91 rfl E
  · rw [if_pos q1] at h
    refine h_aload_n dX5_readLand_84 rfl ?_
    refine g_X5_19  dX5_readLand_85 ?_
    obtain ⟨g1, h⟩ := gd_some h
    have w1 := of_decide_eq_true g1
    obtain ⟨y1, hh1, h⟩ := obd_some h
    refine h_cVv [] (m_X3_measureWays (by omega) hh1) cw_X5_52 dX5_readLand_88 rfl (ok_3 (by omega)) (by decide) rfl (Or.inr rfl) rfl ?_
    cases h
    exact h_vret dX5_readLand_91 rfl E
theorem bx_X5_readLand_77 (X : CX) (Q : State → Prop) {I : Mem} {P : PMem} {O : Nat → Int64} {D : Bool} {n : Nat} {z2 : Nat} {r : Nat}  (hz2 : z2 < 2) (h : f_X5_readLand_77 z2 I P = some (Sum.inr r)) (E : EndX X cX5_readLand RX5 4 (none) 163 (n + 1) r I P O D Q) : Here X cX5_readLand RX5 4 (none) 163 (n + 1) 77 [some (.inr (.inr (5, 0, 0))), none, none, none] [] I P O D n Q := by
  unfold f_X5_readLand_77 at h
  refine h_aload_n dX5_readLand_77 rfl ?_
  refine g_X5_37  dX5_readLand_78 ?_
  refine h_if_ne (tgt := 91) dX5_readLand_81 (by decide) (fun q1 => ?_) (fun q1 => ?_)
  · rw [if_neg q1] at h
    cases h
  · rw [if_pos q1] at h
    refine h_aload_n dX5_readLand_84 rfl ?_
    refine g_X5_19  dX5_readLand_85 ?_
    obtain ⟨g1, h⟩ := gd_some h
    have w1 := of_decide_eq_true g1
    obtain ⟨y1, hh1, h⟩ := obd_some h
    refine h_cVv [] (m_X3_measureWays (by omega) hh1) cw_X5_52 dX5_readLand_88 rfl (ok_3 (by omega)) (by decide) rfl (Or.inr rfl) rfl ?_
    cases h
def f_X5_readLand_46  (z2 : Nat) : Nat → Mem → PMem → Int32 → Option ((Mem × PMem) ⊕ Nat)
  | 0, _, _, _ => none
  | fu + 1, I, P, v3 =>
    if (600 : Int32) ≤ v3 then (f_X5_readLand_77 z2 I P) else (if (I 5 0 0 0) = 0 then (if (I 5 0 0 5) = 0 then (f_X5_readLand_77 z2 I P) else (thb (f_X5_readLine P I) fun y1 =>
    (f_X5_readLand_46 z2 fu) y1 P (v3 + (1 : Int32)))) else (f_X5_readLand_77 z2 I P))
theorem b_X5_readLand_46 (X : CX) (Q : State → Prop) {O : Nat → Int64} {D : Bool} {n : Nat} {z2 : Nat} {r : (Mem × PMem)}  (hz2 : z2 < 2) : ∀ (fu : Nat) {I : Mem} {P : PMem} {v3 : Int32}, f_X5_readLand_46 z2 fu I P v3 = some (Sum.inl r) → EndR X cX5_readLand RX5 4 (none) 163 n none r.1 r.2 O D Q → Here X cX5_readLand RX5 4 (none) 163 n 46 [some (.inr (.inr (5, 0, 0))), none, none, some (.inl v3)] [] I P O D n Q := by
  intro fu
  induction fu with
  | zero => intro I P v3 h E; cases h
  | succ fu ih =>
  intro I P v3 h E
  have H46 : ∀ (I : Mem) (P : PMem) (v3 : Int32), f_X5_readLand_46 z2 fu I P v3 = some (Sum.inl r) → Here X cX5_readLand RX5 4 (none) 163 n 46 [some (.inr (.inr (5, 0, 0))), none, none, some (.inl v3)] [] I P O D n Q := fun _ _ _ b => ih b E
  simp only [f_X5_readLand_46] at h
  refine h_iload_n dX5_readLand_46 rfl ?_
  refine h_sipush (600 : Int32) dX5_readLand_47 k_sipush_600 ?_
  refine h_icmp_ge (tgt := 77) dX5_readLand_50 (by decide) (fun q1 => ?_) (fun q1 => ?_)
  · rw [if_pos q1] at h
    exact h_mask [true, false, false, false] (b_X5_readLand_77 X Q hz2  h E)
  · rw [if_neg q1] at h
    refine h_aload_n dX5_readLand_53 rfl ?_
    refine g_X5_37  dX5_readLand_54 ?_
    refine h_if_ne (tgt := 77) dX5_readLand_57 (by decide) (fun q2 => ?_) (fun q2 => ?_)
    · rw [if_neg q2] at h
      exact h_mask [true, false, false, false] (b_X5_readLand_77 X Q hz2  h E)
    · rw [if_pos q2] at h
      refine h_aload_n dX5_readLand_60 rfl ?_
      refine g_X5_46  dX5_readLand_61 ?_
      refine h_if_eq (tgt := 77) dX5_readLand_64 (by decide) (fun q3 => ?_) (fun q3 => ?_)
      · rw [if_pos q3] at h
        exact h_mask [true, false, false, false] (b_X5_readLand_77 X Q hz2  h E)
      · rw [if_neg q3] at h
        refine h_aload_n dX5_readLand_67 rfl ?_
        obtain ⟨y1, hh1, h⟩ := thb_R h
        refine h_cVv [] (m_X5_readLine  hh1) cw_X5_49 dX5_readLand_68 rfl ok_5 (by decide) rfl (Or.inr rfl) rfl ?_
        refine h_iinc (1 : Int32) dX5_readLand_71 rfl k_iinc_1 (by decide) rfl ?_
        refine h_goto (tgt := 46) dX5_readLand_74 (by decide) ?_
        exact (H46 _ _ _ h)
theorem bx_X5_readLand_46 (X : CX) (Q : State → Prop) {O : Nat → Int64} {D : Bool} {n : Nat} {z2 : Nat} {r : Nat}  (hz2 : z2 < 2) : ∀ (fu : Nat) {I : Mem} {P : PMem} {v3 : Int32}, f_X5_readLand_46 z2 fu I P v3 = some (Sum.inr r) → EndX X cX5_readLand RX5 4 (none) 163 (n + 1) r I P O D Q → Here X cX5_readLand RX5 4 (none) 163 (n + 1) 46 [some (.inr (.inr (5, 0, 0))), none, none, some (.inl v3)] [] I P O D n Q := by
  intro fu
  induction fu with
  | zero => intro I P v3 h E; cases h
  | succ fu ih =>
  intro I P v3 h E
  have H46 : ∀ (I : Mem) (P : PMem) (v3 : Int32), f_X5_readLand_46 z2 fu I P v3 = some (Sum.inr r) → Here X cX5_readLand RX5 4 (none) 163 (n + 1) 46 [some (.inr (.inr (5, 0, 0))), none, none, some (.inl v3)] [] I P O D n Q := fun _ _ _ b => ih b E
  simp only [f_X5_readLand_46] at h
  refine h_iload_n dX5_readLand_46 rfl ?_
  refine h_sipush (600 : Int32) dX5_readLand_47 k_sipush_600 ?_
  refine h_icmp_ge (tgt := 77) dX5_readLand_50 (by decide) (fun q1 => ?_) (fun q1 => ?_)
  · rw [if_pos q1] at h
    exact h_mask [true, false, false, false] (bx_X5_readLand_77 X Q hz2  h E)
  · rw [if_neg q1] at h
    refine h_aload_n dX5_readLand_53 rfl ?_
    refine g_X5_37  dX5_readLand_54 ?_
    refine h_if_ne (tgt := 77) dX5_readLand_57 (by decide) (fun q2 => ?_) (fun q2 => ?_)
    · rw [if_neg q2] at h
      exact h_mask [true, false, false, false] (bx_X5_readLand_77 X Q hz2  h E)
    · rw [if_pos q2] at h
      refine h_aload_n dX5_readLand_60 rfl ?_
      refine g_X5_46  dX5_readLand_61 ?_
      refine h_if_eq (tgt := 77) dX5_readLand_64 (by decide) (fun q3 => ?_) (fun q3 => ?_)
      · rw [if_pos q3] at h
        exact h_mask [true, false, false, false] (bx_X5_readLand_77 X Q hz2  h E)
      · rw [if_neg q3] at h
        refine h_aload_n dX5_readLand_67 rfl ?_
        rcases thb_X h with hh1 | ⟨y1, hh1, h⟩
        · exact h_callVX (as := []) (mx_X5_readLine  hh1) cw_X5_49 dX5_readLand_68 rfl ok_5 (by decide) rfl rfl E
        refine h_cVv [] (m_X5_readLine  hh1) cw_X5_49 dX5_readLand_68 rfl ok_5 (by decide) rfl (Or.inr rfl) rfl ?_
        refine h_iinc (1 : Int32) dX5_readLand_71 rfl k_iinc_1 (by decide) rfl ?_
        refine h_goto (tgt := 46) dX5_readLand_74 (by decide) ?_
        exact (H46 _ _ _ h)
def f_X5_readLand  (z2 : Nat) (I : Mem) (P : PMem) (v1 : Int32) : Option ((Mem × PMem) ⊕ Nat) :=
  bnd (upd4 I 5 0 0 3 (jmin v1 (600 : Int32))) fun I1' =>
  bnd (updP P 5 0 0 4 z2) fun P1' =>
  gd (decide ((P1' 5 0 0 4) < 2)) <|
  (f_X3_clear (P1' 5 0 0 4) I1').bind fun y1 =>
  bnd (upd4 y1 5 0 0 0 (0 : Int32)) fun I2' =>
  bnd (upd4 I2' 5 0 0 1 (-1 : Int32)) fun I3' =>
  bnd (upd4 I3' 5 0 0 7 (0 : Int32)) fun I4' =>
  (f_X5_advance I4').bind fun y2 =>
  f_X5_readLand_46 z2 FU y2 P1' (0 : Int32)
theorem b_X5_readLand (X : CX) (Q : State → Prop) {I : Mem} {P : PMem} {O : Nat → Int64} {D : Bool} {n : Nat} {z2 : Nat} {v1 : Int32} {r : (Mem × PMem)}  (hz2 : z2 < 2) (h : f_X5_readLand z2 I P v1 = some (Sum.inl r)) (E : EndR X cX5_readLand RX5 4 (none) 163 n none r.1 r.2 O D Q) : Here X cX5_readLand RX5 4 (none) 163 n 0 [some (.inr (.inr (5, 0, 0))), some (.inl v1), some (.inr (.inr (3, z2, 0))), none] [] I P O D n Q := by
  unfold f_X5_readLand at h
  refine h_aload_n dX5_readLand_0 rfl ?_
  refine h_iload_n dX5_readLand_1 rfl ?_
  refine h_aload_n dX5_readLand_2 rfl ?_
  refine g_X5_15  dX5_readLand_3 ?_
  refine h_aleni (600 : Int32) rfl dX5_readLand_6 ok_47 (by decide) ?_
  refine h_min dX5_readLand_7 ml_X5_23 wm1_min wm2 wm3_min (by decide) rfl ?_
  obtain ⟨I1', e1, h⟩ := bnd_some h
  refine p_X5_29  dX5_readLand_10 ?_
  refine h_nmI e1 ?_
  refine h_aload_n dX5_readLand_13 rfl ?_
  refine h_aload_n dX5_readLand_14 rfl ?_
  obtain ⟨P1', e2, h⟩ := bnd_some h
  refine p_X5_19  dX5_readLand_15 ?_
  refine h_nmP e2 ?_
  refine h_aload_n dX5_readLand_18 rfl ?_
  refine g_X5_19  dX5_readLand_19 ?_
  obtain ⟨g1, h⟩ := gd_some h
  have w1 := of_decide_eq_true g1
  obtain ⟨y1, hh1, h⟩ := obd_some h
  refine h_cVv [] (m_X3_clear (by omega) hh1) cw_X5_32 dX5_readLand_22 rfl (ok_3 (by omega)) (by decide) rfl (Or.inr rfl) rfl ?_
  refine h_aload_n dX5_readLand_25 rfl ?_
  refine h_iconst (0 : Int32) dX5_readLand_26 k_iconst_0 ?_
  obtain ⟨I2', e3, h⟩ := bnd_some h
  refine p_X5_37  dX5_readLand_27 ?_
  refine h_nmI e3 ?_
  refine h_aload_n dX5_readLand_30 rfl ?_
  refine h_iconst (-1 : Int32) dX5_readLand_31 k_iconst_m1 ?_
  obtain ⟨I3', e4, h⟩ := bnd_some h
  refine p_X5_9  dX5_readLand_32 ?_
  refine h_nmI e4 ?_
  refine h_aload_n dX5_readLand_35 rfl ?_
  refine h_iconst (0 : Int32) dX5_readLand_36 k_iconst_0 ?_
  obtain ⟨I4', e5, h⟩ := bnd_some h
  refine p_X5_40  dX5_readLand_37 ?_
  refine h_nmI e5 ?_
  refine h_aload_n dX5_readLand_40 rfl ?_
  obtain ⟨y2, hh2, h⟩ := obd_some h
  refine h_cVv [] (m_X5_advance  hh2) cw_X5_43 dX5_readLand_41 rfl ok_5 (by decide) rfl (Or.inr rfl) rfl ?_
  refine h_iconst (0 : Int32) dX5_readLand_44 k_iconst_0 ?_
  refine h_istore_n dX5_readLand_45 (by decide) rfl ?_
  exact h_mask [true, false, false, true] (b_X5_readLand_46 X Q hz2 FU  h E)
theorem bx_X5_readLand (X : CX) (Q : State → Prop) {I : Mem} {P : PMem} {O : Nat → Int64} {D : Bool} {n : Nat} {z2 : Nat} {v1 : Int32} {r : Nat}  (hz2 : z2 < 2) (h : f_X5_readLand z2 I P v1 = some (Sum.inr r)) (E : EndX X cX5_readLand RX5 4 (none) 163 (n + 1) r I P O D Q) : Here X cX5_readLand RX5 4 (none) 163 (n + 1) 0 [some (.inr (.inr (5, 0, 0))), some (.inl v1), some (.inr (.inr (3, z2, 0))), none] [] I P O D n Q := by
  unfold f_X5_readLand at h
  refine h_aload_n dX5_readLand_0 rfl ?_
  refine h_iload_n dX5_readLand_1 rfl ?_
  refine h_aload_n dX5_readLand_2 rfl ?_
  refine g_X5_15  dX5_readLand_3 ?_
  refine h_aleni (600 : Int32) rfl dX5_readLand_6 ok_47 (by decide) ?_
  refine h_min dX5_readLand_7 ml_X5_23 wm1_min wm2 wm3_min (by decide) rfl ?_
  obtain ⟨I1', e1, h⟩ := bnd_some h
  refine p_X5_29  dX5_readLand_10 ?_
  refine h_nmI e1 ?_
  refine h_aload_n dX5_readLand_13 rfl ?_
  refine h_aload_n dX5_readLand_14 rfl ?_
  obtain ⟨P1', e2, h⟩ := bnd_some h
  refine p_X5_19  dX5_readLand_15 ?_
  refine h_nmP e2 ?_
  refine h_aload_n dX5_readLand_18 rfl ?_
  refine g_X5_19  dX5_readLand_19 ?_
  obtain ⟨g1, h⟩ := gd_some h
  have w1 := of_decide_eq_true g1
  obtain ⟨y1, hh1, h⟩ := obd_some h
  refine h_cVv [] (m_X3_clear (by omega) hh1) cw_X5_32 dX5_readLand_22 rfl (ok_3 (by omega)) (by decide) rfl (Or.inr rfl) rfl ?_
  refine h_aload_n dX5_readLand_25 rfl ?_
  refine h_iconst (0 : Int32) dX5_readLand_26 k_iconst_0 ?_
  obtain ⟨I2', e3, h⟩ := bnd_some h
  refine p_X5_37  dX5_readLand_27 ?_
  refine h_nmI e3 ?_
  refine h_aload_n dX5_readLand_30 rfl ?_
  refine h_iconst (-1 : Int32) dX5_readLand_31 k_iconst_m1 ?_
  obtain ⟨I3', e4, h⟩ := bnd_some h
  refine p_X5_9  dX5_readLand_32 ?_
  refine h_nmI e4 ?_
  refine h_aload_n dX5_readLand_35 rfl ?_
  refine h_iconst (0 : Int32) dX5_readLand_36 k_iconst_0 ?_
  obtain ⟨I4', e5, h⟩ := bnd_some h
  refine p_X5_40  dX5_readLand_37 ?_
  refine h_nmI e5 ?_
  refine h_aload_n dX5_readLand_40 rfl ?_
  obtain ⟨y2, hh2, h⟩ := obd_some h
  refine h_cVv [] (m_X5_advance  hh2) cw_X5_43 dX5_readLand_41 rfl ok_5 (by decide) rfl (Or.inr rfl) rfl ?_
  refine h_iconst (0 : Int32) dX5_readLand_44 k_iconst_0 ?_
  refine h_istore_n dX5_readLand_45 (by decide) rfl ?_
  exact h_mask [true, false, false, true] (bx_X5_readLand_46 X Q hz2 FU  h E)
theorem m_X5_readLand {I : Mem} {P : PMem} {O : Nat → Int64} {D : Bool} {n : Nat} {v1 : Int32} {z2 : Nat} {r : (Mem × PMem)} (hz2 : z2 < 2) (h : f_X5_readLand z2 I P v1 = some (Sum.inl r)) : MethR yX5_readLand cX5_readLand 4 (none) 163 [.inr (.inr (5, 0, 0)), .inl v1, .inr (.inr (3, z2, 0))] I P O D n none r.1 r.2 O D n := meth_R (Nat.le_refl _) (by decide) rfl (Nat.le_of_ble_eq_true rfl) rfl (fun X Q E => b_X5_readLand X Q hz2 h E)
theorem mx_X5_readLand {I : Mem} {P : PMem} {O : Nat → Int64} {D : Bool} {n : Nat} {v1 : Int32} {z2 : Nat} {r : Nat} (hz2 : z2 < 2) (h : f_X5_readLand z2 I P v1 = some (Sum.inr r)) : MethX yX5_readLand cX5_readLand 4 (none) 163 [.inr (.inr (5, 0, 0)), .inl v1, .inr (.inr (3, z2, 0))] I P O D n r I P O D (n + 1) := meth_X (Nat.le_succ _) (by decide) rfl (Nat.le_of_ble_eq_true rfl) rfl (fun X Q E => bx_X5_readLand X Q hz2 h E)
def f_X6_isFull  (I : Mem) (z0 : Nat)  : Option (Int32) :=
  if (I 6 z0 0 3) < (Int32.ofNat (rowsLen z0)) then (some (0 : Int32)) else (some (1 : Int32))
theorem b_X6_isFull (X : CX) (Q : State → Prop) {I : Mem} {P : PMem} {O : Nat → Int64} {D : Bool} {n : Nat} {z0 : Nat} {r : (Int32)}  (hz0 : z0 < 10) (h : f_X6_isFull I z0 = some r) (E : EndR X cX6_isFull RX6 1 (some .boolean) 2 n (some (.inl r)) I P O D Q) : Here X cX6_isFull RX6 1 (some .boolean) 2 n 0 [some (.inr (.inr (6, z0, 0)))] [] I P O D n Q := by
  unfold f_X6_isFull at h
  refine h_aload_n dX6_isFull_0 rfl ?_
  refine g_X6_25 (by omega) dX6_isFull_1 ?_
  refine h_aload_n dX6_isFull_4 rfl ?_
  refine g_X6_13 (by omega) dX6_isFull_5 ?_
  refine h_aleni (Int32.ofNat (rowsLen z0)) rfl dX6_isFull_8 (ok_44 (by omega)) rfl ?_
  refine h_icmp_lt (tgt := 16) dX6_isFull_9 (by decide) (fun q1 => ?_) (fun q1 => ?_)
  · rw [if_pos q1] at h
    refine h_iconst (0 : Int32) dX6_isFull_16 k_iconst_0 ?_
    cases h
    exact h_zret dX6_isFull_17 rfl rfl E
  · rw [if_neg q1] at h
    refine h_iconst (1 : Int32) dX6_isFull_12 k_iconst_1 ?_
    refine h_goto (tgt := 17) dX6_isFull_13 (by decide) ?_
    cases h
    exact h_zret dX6_isFull_17 rfl rfl E
theorem m_X6_isFull {I : Mem} {P : PMem} {O : Nat → Int64} {D : Bool} {n : Nat} {z0 : Nat} {r : (Int32)} (hz0 : z0 < 10) (h : f_X6_isFull I z0 = some r) : MethR yX6_isFull cX6_isFull 1 (some .boolean) 2 [.inr (.inr (6, z0, 0))] I P O D n (some (.inl r)) I P O D n := meth_R (Nat.le_refl _) (by decide) rfl (Nat.le_of_ble_eq_true rfl) rfl (fun X Q E => b_X6_isFull X Q hz0 h E)
def f_X6_dropFirst  (z0 : Nat) (I : Mem) : Option (Mem) :=
  if (I 6 z0 0 3) ≤ 0 then (some I) else (bnd (upd4 I 6 z0 0 3 ((I 6 z0 0 3) - (1 : Int32))) fun I1' =>
  gd (cpOK (1 : Int32) (0 : Int32) (I1' 6 z0 0 3) (rowsLen z0) (rowsLen z0)) <|
  bnd (updR I1' 44 z0 0 (va_cpy (I1' 44 z0 0) (I1' 44 z0 0) (1 : Int32).toNatClampNeg (0 : Int32).toNatClampNeg (I1' 6 z0 0 3).toNatClampNeg)) fun I2' =>
  gd (cpOK (1 : Int32) (0 : Int32) (I2' 6 z0 0 3) (rowsLen z0) (rowsLen z0)) <|
  bnd (updR I2' 45 z0 0 (va_cpy (I2' 45 z0 0) (I2' 45 z0 0) (1 : Int32).toNatClampNeg (0 : Int32).toNatClampNeg (I2' 6 z0 0 3).toNatClampNeg)) fun I3' =>
  gd (cpOK (1 : Int32) (0 : Int32) (I3' 6 z0 0 3) (rowsLen z0) (rowsLen z0)) <|
  bnd (updR I3' 46 z0 0 (va_cpy (I3' 46 z0 0) (I3' 46 z0 0) (1 : Int32).toNatClampNeg (0 : Int32).toNatClampNeg (I3' 6 z0 0 3).toNatClampNeg)) fun I4' =>
  some I4')
theorem b_X6_dropFirst (X : CX) (Q : State → Prop) {I : Mem} {P : PMem} {O : Nat → Int64} {D : Bool} {n : Nat} {z0 : Nat} {r : (Mem)}  (hz0 : z0 < 10) (h : f_X6_dropFirst z0 I = some r) (E : EndR X cX6_dropFirst RX6 1 (none) 2 n none r P O D Q) : Here X cX6_dropFirst RX6 1 (none) 2 n 0 [some (.inr (.inr (6, z0, 0)))] [] I P O D n Q := by
  unfold f_X6_dropFirst at h
  refine h_aload_n dX6_dropFirst_0 rfl ?_
  refine g_X6_25 (by omega) dX6_dropFirst_1 ?_
  refine h_if_le (tgt := 68) dX6_dropFirst_4 (by decide) (fun q1 => ?_) (fun q1 => ?_)
  · rw [if_pos q1] at h
    cases h
    exact h_vret dX6_dropFirst_68 rfl E
  · rw [if_neg q1] at h
    refine h_aload_n dX6_dropFirst_7 rfl ?_
    refine h_dup dX6_dropFirst_8 (fun _ => rfl) ?_
    refine g_X6_25 (by omega) dX6_dropFirst_9 ?_
    refine h_iconst (1 : Int32) dX6_dropFirst_12 k_iconst_1 ?_
    refine h_isub dX6_dropFirst_13 ?_
    obtain ⟨I1', e1, h⟩ := bnd_some h
    refine p_X6_25 (by omega) dX6_dropFirst_14 ?_
    refine h_nmI e1 ?_
    refine h_aload_n dX6_dropFirst_17 rfl ?_
    refine g_X6_13 (by omega) dX6_dropFirst_18 ?_
    refine h_iconst (1 : Int32) dX6_dropFirst_21 k_iconst_1 ?_
    refine h_aload_n dX6_dropFirst_22 rfl ?_
    refine g_X6_13 (by omega) dX6_dropFirst_23 ?_
    refine h_iconst (0 : Int32) dX6_dropFirst_26 k_iconst_0 ?_
    refine h_aload_n dX6_dropFirst_27 rfl ?_
    refine g_X6_25 (by omega) dX6_dropFirst_28 ?_
    obtain ⟨g1, h⟩ := gd_some h
    obtain ⟨I2', e2, h⟩ := bnd_some h
    refine h_copy dX6_dropFirst_31 ml_X6_36 wa1 wa2 wa3 (by decide) rfl rfl (ok_44 (by omega)) rfl (ok_44 (by omega)) g1 ?_
    refine h_nmI e2 ?_
    refine h_aload_n dX6_dropFirst_34 rfl ?_
    refine g_X6_19 (by omega) dX6_dropFirst_35 ?_
    refine h_iconst (1 : Int32) dX6_dropFirst_38 k_iconst_1 ?_
    refine h_aload_n dX6_dropFirst_39 rfl ?_
    refine g_X6_19 (by omega) dX6_dropFirst_40 ?_
    refine h_iconst (0 : Int32) dX6_dropFirst_43 k_iconst_0 ?_
    refine h_aload_n dX6_dropFirst_44 rfl ?_
    refine g_X6_25 (by omega) dX6_dropFirst_45 ?_
    obtain ⟨g2, h⟩ := gd_some h
    obtain ⟨I3', e3, h⟩ := bnd_some h
    refine h_copy dX6_dropFirst_48 ml_X6_36 wa1 wa2 wa3 (by decide) rfl rfl (ok_45 (by omega)) rfl (ok_45 (by omega)) g2 ?_
    refine h_nmI e3 ?_
    refine h_aload_n dX6_dropFirst_51 rfl ?_
    refine g_X6_22 (by omega) dX6_dropFirst_52 ?_
    refine h_iconst (1 : Int32) dX6_dropFirst_55 k_iconst_1 ?_
    refine h_aload_n dX6_dropFirst_56 rfl ?_
    refine g_X6_22 (by omega) dX6_dropFirst_57 ?_
    refine h_iconst (0 : Int32) dX6_dropFirst_60 k_iconst_0 ?_
    refine h_aload_n dX6_dropFirst_61 rfl ?_
    refine g_X6_25 (by omega) dX6_dropFirst_62 ?_
    obtain ⟨g3, h⟩ := gd_some h
    obtain ⟨I4', e4, h⟩ := bnd_some h
    refine h_copy dX6_dropFirst_65 ml_X6_36 wa1 wa2 wa3 (by decide) rfl rfl (ok_46 (by omega)) rfl (ok_46 (by omega)) g3 ?_
    refine h_nmI e4 ?_
    cases h
    exact h_vret dX6_dropFirst_68 rfl E
theorem m_X6_dropFirst {I : Mem} {P : PMem} {O : Nat → Int64} {D : Bool} {n : Nat} {z0 : Nat} {r : (Mem)} (hz0 : z0 < 10) (h : f_X6_dropFirst z0 I = some r) : MethR yX6_dropFirst cX6_dropFirst 1 (none) 2 [.inr (.inr (6, z0, 0))] I P O D n none r P O D n := meth_R (Nat.le_refl _) (by decide) rfl (Nat.le_of_ble_eq_true rfl) rfl (fun X Q E => b_X6_dropFirst X Q hz0 h E)
def f_X6_add_11  (z0 : Nat) (I : Mem) (v1 : Int32) (v2 : Int32) (v3 : Int32) : Option (Mem) :=
  gd (inb (I 6 z0 0 3) (rowsLen z0)) <|
  bnd (upd4 I 44 z0 0 ((I 6 z0 0 3).toNatClampNeg) v1) fun I1' =>
  gd (inb (I1' 6 z0 0 3) (rowsLen z0)) <|
  bnd (upd4 I1' 45 z0 0 ((I1' 6 z0 0 3).toNatClampNeg) v2) fun I2' =>
  gd (inb (I2' 6 z0 0 3) (rowsLen z0)) <|
  bnd (upd4 I2' 46 z0 0 ((I2' 6 z0 0 3).toNatClampNeg) v3) fun I3' =>
  bnd (upd4 I3' 6 z0 0 3 ((I3' 6 z0 0 3) + (1 : Int32))) fun I4' =>
  some I4'
theorem b_X6_add_11 (X : CX) (Q : State → Prop) {I : Mem} {P : PMem} {O : Nat → Int64} {D : Bool} {n : Nat} {z0 : Nat} {v1 : Int32} {v2 : Int32} {v3 : Int32} {r : (Mem)}  (hz0 : z0 < 10) (h : f_X6_add_11 z0 I v1 v2 v3 = some r) (E : EndR X cX6_add RX6 4 (none) 3 n none r P O D Q) : Here X cX6_add RX6 4 (none) 3 n 11 [some (.inr (.inr (6, z0, 0))), some (.inl v1), some (.inl v2), some (.inl v3)] [] I P O D n Q := by
  unfold f_X6_add_11 at h
  refine h_aload_n dX6_add_11 rfl ?_
  refine g_X6_13 (by omega) dX6_add_12 ?_
  refine h_aload_n dX6_add_15 rfl ?_
  refine g_X6_25 (by omega) dX6_add_16 ?_
  refine h_iload_n dX6_add_19 rfl ?_
  obtain ⟨g1, h⟩ := gd_some h
  obtain ⟨I1', e1, h⟩ := bnd_some h
  refine as_44 (by omega) ((I 6 z0 0 3).toNatClampNeg) rfl dX6_add_20 g1 ?_
  refine h_nmI e1 ?_
  refine h_aload_n dX6_add_21 rfl ?_
  refine g_X6_19 (by omega) dX6_add_22 ?_
  refine h_aload_n dX6_add_25 rfl ?_
  refine g_X6_25 (by omega) dX6_add_26 ?_
  refine h_iload_n dX6_add_29 rfl ?_
  obtain ⟨g2, h⟩ := gd_some h
  obtain ⟨I2', e2, h⟩ := bnd_some h
  refine as_45 (by omega) ((I1' 6 z0 0 3).toNatClampNeg) rfl dX6_add_30 g2 ?_
  refine h_nmI e2 ?_
  refine h_aload_n dX6_add_31 rfl ?_
  refine g_X6_22 (by omega) dX6_add_32 ?_
  refine h_aload_n dX6_add_35 rfl ?_
  refine g_X6_25 (by omega) dX6_add_36 ?_
  refine h_iload_n dX6_add_39 rfl ?_
  obtain ⟨g3, h⟩ := gd_some h
  obtain ⟨I3', e3, h⟩ := bnd_some h
  refine as_46 (by omega) ((I2' 6 z0 0 3).toNatClampNeg) rfl dX6_add_40 g3 ?_
  refine h_nmI e3 ?_
  refine h_aload_n dX6_add_41 rfl ?_
  refine h_dup dX6_add_42 (fun _ => rfl) ?_
  refine g_X6_25 (by omega) dX6_add_43 ?_
  refine h_iconst (1 : Int32) dX6_add_46 k_iconst_1 ?_
  refine h_iadd dX6_add_47 ?_
  obtain ⟨I4', e4, h⟩ := bnd_some h
  refine p_X6_25 (by omega) dX6_add_48 ?_
  refine h_nmI e4 ?_
  cases h
  exact h_vret dX6_add_51 rfl E
def f_X6_add  (z0 : Nat) (I : Mem) (v1 : Int32) (v2 : Int32) (v3 : Int32) : Option (Mem) :=
  (f_X6_isFull I z0).bind fun y1 =>
  if y1 = 0 then (f_X6_add_11 z0 I v1 v2 v3) else ((f_X6_dropFirst z0 I).bind fun y2 =>
  f_X6_add_11 z0 y2 v1 v2 v3)
theorem b_X6_add (X : CX) (Q : State → Prop) {I : Mem} {P : PMem} {O : Nat → Int64} {D : Bool} {n : Nat} {z0 : Nat} {v1 : Int32} {v2 : Int32} {v3 : Int32} {r : (Mem)}  (hz0 : z0 < 10) (h : f_X6_add z0 I v1 v2 v3 = some r) (E : EndR X cX6_add RX6 4 (none) 3 n none r P O D Q) : Here X cX6_add RX6 4 (none) 3 n 0 [some (.inr (.inr (6, z0, 0))), some (.inl v1), some (.inl v2), some (.inl v3)] [] I P O D n Q := by
  unfold f_X6_add at h
  refine h_aload_n dX6_add_0 rfl ?_
  obtain ⟨y1, hh1, h⟩ := obd_some h
  refine h_cVi [] (m_X6_isFull (by omega) hh1) cw_X6_29 dX6_add_1 rfl (ok_6 (by omega)) (by decide) rfl (Or.inr rfl) rfl ?_
  refine h_if_eq (tgt := 11) dX6_add_4 (by decide) (fun q1 => ?_) (fun q1 => ?_)
  · rw [if_pos q1] at h
    exact (b_X6_add_11 X Q hz0  h E)
  · rw [if_neg q1] at h
    refine h_aload_n dX6_add_7 rfl ?_
    obtain ⟨y2, hh2, h⟩ := obd_some h
    refine h_cVv [] (m_X6_dropFirst (by omega) hh2) cw_X6_33 dX6_add_8 rfl (ok_6 (by omega)) (by decide) rfl (Or.inr rfl) rfl ?_
    exact (b_X6_add_11 X Q hz0  h E)
theorem m_X6_add {I : Mem} {P : PMem} {O : Nat → Int64} {D : Bool} {n : Nat} {z0 : Nat} {v1 : Int32} {v2 : Int32} {v3 : Int32} {r : (Mem)} (hz0 : z0 < 10) (h : f_X6_add z0 I v1 v2 v3 = some r) : MethR yX6_add cX6_add 4 (none) 3 [.inr (.inr (6, z0, 0)), .inl v1, .inl v2, .inl v3] I P O D n none r P O D n := meth_R (Nat.le_refl _) (by decide) rfl (Nat.le_of_ble_eq_true rfl) rfl (fun X Q E => b_X6_add X Q hz0 h E)
def f_X7_putBytes_3   : Nat → Mem → Int32 → Int32 → Option (Mem)
  | 0, _, _, _ => none
  | fu + 1, I, v1, v2 =>
    if v2 < 0 then (some I) else (if (600 : Int32) ≤ (I 7 0 0 1) then (some I) else (gd (inb (I 7 0 0 1) 600) <|
    bnd (upd4 I 47 0 0 ((I 7 0 0 1).toNatClampNeg) (((jushr v1 v2).toInt8.toInt32).toInt8.toInt32)) fun I1' =>
    bnd (upd4 I1' 7 0 0 1 ((I1' 7 0 0 1) + (1 : Int32))) fun I2' =>
    (f_X7_putBytes_3 fu) I2' v1 (v2 + (-8 : Int32))))
theorem b_X7_putBytes_3 (X : CX) (Q : State → Prop) {P : PMem} {O : Nat → Int64} {D : Bool} {n : Nat} {r : (Mem)}  : ∀ (fu : Nat) {I : Mem} {v1 : Int32} {v2 : Int32}, f_X7_putBytes_3 fu I v1 v2 = some r → EndR X cX7_putBytes RX7 3 (none) 2 n none r P O D Q → Here X cX7_putBytes RX7 3 (none) 2 n 3 [some (.inr (.inr (7, 0, 0))), some (.inl v1), some (.inl v2)] [] I P O D n Q := by
  intro fu
  induction fu with
  | zero => intro I v1 v2 h E; cases h
  | succ fu ih =>
  intro I v1 v2 h E
  have H3 : ∀ (I : Mem) (v1 : Int32) (v2 : Int32), f_X7_putBytes_3 fu I v1 v2 = some r → Here X cX7_putBytes RX7 3 (none) 2 n 3 [some (.inr (.inr (7, 0, 0))), some (.inl v1), some (.inl v2)] [] I P O D n Q := fun _ _ _ b => ih b E
  simp only [f_X7_putBytes_3] at h
  refine h_iload_n dX7_putBytes_3 rfl ?_
  refine h_if_lt (tgt := 46) dX7_putBytes_4 (by decide) (fun q1 => ?_) (fun q1 => ?_)
  · rw [if_pos q1] at h
    cases h
    exact h_vret dX7_putBytes_46 rfl E
  · rw [if_neg q1] at h
    refine h_aload_n dX7_putBytes_7 rfl ?_
    refine g_X7_58  dX7_putBytes_8 ?_
    refine h_sipush (600 : Int32) dX7_putBytes_11 k_sipush_600 ?_
    refine h_icmp_ge (tgt := 46) dX7_putBytes_14 (by decide) (fun q2 => ?_) (fun q2 => ?_)
    · rw [if_pos q2] at h
      cases h
      exact h_vret dX7_putBytes_46 rfl E
    · rw [if_neg q2] at h
      refine h_aload_n dX7_putBytes_17 rfl ?_
      refine g_X7_9  dX7_putBytes_18 ?_
      refine h_aload_n dX7_putBytes_21 rfl ?_
      refine g_X7_58  dX7_putBytes_22 ?_
      refine h_iload_n dX7_putBytes_25 rfl ?_
      refine h_iload_n dX7_putBytes_26 rfl ?_
      refine h_ushr dX7_putBytes_27 ?_
      refine h_i2b dX7_putBytes_28 ?_
      obtain ⟨g1, h⟩ := gd_some h
      obtain ⟨I1', e1, h⟩ := bnd_some h
      refine as_47  ((I 7 0 0 1).toNatClampNeg) rfl dX7_putBytes_29 g1 ?_
      refine h_nmI e1 ?_
      refine h_aload_n dX7_putBytes_30 rfl ?_
      refine h_dup dX7_putBytes_31 (fun _ => rfl) ?_
      refine g_X7_58  dX7_putBytes_32 ?_
      refine h_iconst (1 : Int32) dX7_putBytes_35 k_iconst_1 ?_
      refine h_iadd dX7_putBytes_36 ?_
      obtain ⟨I2', e2, h⟩ := bnd_some h
      refine p_X7_58  dX7_putBytes_37 ?_
      refine h_nmI e2 ?_
      refine h_iinc (-8 : Int32) dX7_putBytes_40 rfl k_iinc_m8 (by decide) rfl ?_
      refine h_goto (tgt := 3) dX7_putBytes_43 (by decide) ?_
      exact (H3 _ _ _ h)
def f_X7_putBytes   (I : Mem) (v1 : Int32) : Option (Mem) :=
  f_X7_putBytes_3 FU I v1 (24 : Int32)
theorem b_X7_putBytes (X : CX) (Q : State → Prop) {I : Mem} {P : PMem} {O : Nat → Int64} {D : Bool} {n : Nat} {v1 : Int32} {r : (Mem)}  (h : f_X7_putBytes I v1 = some r) (E : EndR X cX7_putBytes RX7 3 (none) 2 n none r P O D Q) : Here X cX7_putBytes RX7 3 (none) 2 n 0 [some (.inr (.inr (7, 0, 0))), some (.inl v1), none] [] I P O D n Q := by
  unfold f_X7_putBytes at h
  refine h_bipush (24 : Int32) dX7_putBytes_0 k_bipush_24 ?_
  refine h_istore_n dX7_putBytes_2 (by decide) rfl ?_
  exact (b_X7_putBytes_3 X Q FU  h E)
theorem m_X7_putBytes {I : Mem} {P : PMem} {O : Nat → Int64} {D : Bool} {n : Nat} {v1 : Int32} {r : (Mem)}  (h : f_X7_putBytes I v1 = some r) : MethR yX7_putBytes cX7_putBytes 3 (none) 2 [.inr (.inr (7, 0, 0)), .inl v1] I P O D n none r P O D n := meth_R (Nat.le_refl _) (by decide) rfl (Nat.le_of_ble_eq_true rfl) rfl (fun X Q E => b_X7_putBytes X Q  h E)
def f_X7_feed   (I : Mem) (v1 : Int32) (v2 : Int32) (v3 : Int32) (v4 : Int32) (v5 : Int32) : Option (Int32 × Mem) :=
  if ((I 7 0 0 1) + (20 : Int32)) ≤ (600 : Int32) then ((f_X7_putBytes I v1).bind fun y1 =>
  (f_X7_putBytes y1 v2).bind fun y2 =>
  (f_X7_putBytes y2 v3).bind fun y3 =>
  (f_X7_putBytes y3 v4).bind fun y4 =>
  (f_X7_putBytes y4 v5).bind fun y5 =>
  some ((y5 7 0 0 1), y5)) else (some ((-1 : Int32), I))
theorem b_X7_feed (X : CX) (Q : State → Prop) {I : Mem} {P : PMem} {O : Nat → Int64} {D : Bool} {n : Nat} {v1 : Int32} {v2 : Int32} {v3 : Int32} {v4 : Int32} {v5 : Int32} {r : (Int32 × Mem)}  (h : f_X7_feed I v1 v2 v3 v4 v5 = some r) (E : EndR X cX7_feed RX7 6 (some .int) 3 n (some (.inl r.1)) r.2 P O D Q) : Here X cX7_feed RX7 6 (some .int) 3 n 0 [some (.inr (.inr (7, 0, 0))), some (.inl v1), some (.inl v2), some (.inl v3), some (.inl v4), some (.inl v5)] [] I P O D n Q := by
  unfold f_X7_feed at h
  refine h_aload_n dX7_feed_0 rfl ?_
  refine g_X7_58  dX7_feed_1 ?_
  refine h_bipush (20 : Int32) dX7_feed_4 k_bipush_20 ?_
  refine h_iadd dX7_feed_6 ?_
  refine h_sipush (600 : Int32) dX7_feed_7 k_sipush_600 ?_
  refine h_icmp_le (tgt := 15) dX7_feed_10 (by decide) (fun q1 => ?_) (fun q1 => ?_)
  · rw [if_pos q1] at h
    refine h_aload_n dX7_feed_15 rfl ?_
    refine h_iload_n dX7_feed_16 rfl ?_
    obtain ⟨y1, hh1, h⟩ := obd_some h
    refine h_cVv [.inl v1] (m_X7_putBytes  hh1) cw_X7_61 dX7_feed_17 rfl ok_7 (by decide) rfl (Or.inr rfl) rfl ?_
    refine h_aload_n dX7_feed_20 rfl ?_
    refine h_iload_n dX7_feed_21 rfl ?_
    obtain ⟨y2, hh2, h⟩ := obd_some h
    refine h_cVv [.inl v2] (m_X7_putBytes  hh2) cw_X7_61 dX7_feed_22 rfl ok_7 (by decide) rfl (Or.inr rfl) rfl ?_
    refine h_aload_n dX7_feed_25 rfl ?_
    refine h_iload_n dX7_feed_26 rfl ?_
    obtain ⟨y3, hh3, h⟩ := obd_some h
    refine h_cVv [.inl v3] (m_X7_putBytes  hh3) cw_X7_61 dX7_feed_27 rfl ok_7 (by decide) rfl (Or.inr rfl) rfl ?_
    refine h_aload_n dX7_feed_30 rfl ?_
    refine h_iload dX7_feed_31 rfl ?_
    obtain ⟨y4, hh4, h⟩ := obd_some h
    refine h_cVv [.inl v4] (m_X7_putBytes  hh4) cw_X7_61 dX7_feed_33 rfl ok_7 (by decide) rfl (Or.inr rfl) rfl ?_
    refine h_aload_n dX7_feed_36 rfl ?_
    refine h_iload dX7_feed_37 rfl ?_
    obtain ⟨y5, hh5, h⟩ := obd_some h
    refine h_cVv [.inl v5] (m_X7_putBytes  hh5) cw_X7_61 dX7_feed_39 rfl ok_7 (by decide) rfl (Or.inr rfl) rfl ?_
    refine h_aload_n dX7_feed_42 rfl ?_
    refine g_X7_58  dX7_feed_43 ?_
    cases h
    exact h_iret dX7_feed_46 rfl E
  · rw [if_neg q1] at h
    refine h_iconst (-1 : Int32) dX7_feed_13 k_iconst_m1 ?_
    cases h
    exact h_iret dX7_feed_14 rfl E
theorem m_X7_feed {I : Mem} {P : PMem} {O : Nat → Int64} {D : Bool} {n : Nat} {v1 : Int32} {v2 : Int32} {v3 : Int32} {v4 : Int32} {v5 : Int32} {r : (Int32 × Mem)}  (h : f_X7_feed I v1 v2 v3 v4 v5 = some r) : MethR yX7_feed cX7_feed 6 (some .int) 3 [.inr (.inr (7, 0, 0)), .inl v1, .inl v2, .inl v3, .inl v4, .inl v5] I P O D n (some (.inl r.1)) r.2 P O D n := meth_R (Nat.le_refl _) (by decide) rfl (Nat.le_of_ble_eq_true rfl) rfl (fun X Q E => b_X7_feed X Q  h E)
def f_X7_land_12   (I : Mem) (P : PMem) : Option ((Int32 × Mem × PMem) ⊕ Nat) :=
  some (Sum.inr 0)
theorem b_X7_land_12 (X : CX) (Q : State → Prop) {I : Mem} {P : PMem} {O : Nat → Int64} {D : Bool} {n : Nat} {r : (Int32 × Mem × PMem)}  (h : f_X7_land_12 I P = some (Sum.inl r)) (E : EndR X cX7_land RX7 3 (some .int) 164 n (some (.inl r.1)) r.2.1 r.2.2 O D Q) : Here X cX7_land RX7 3 (some .int) 164 n 12 [none, none, none] [] I P O D n Q := by
  unfold f_X7_land_12 at h
  cases h
theorem bx_X7_land_12 (X : CX) (Q : State → Prop) {I : Mem} {P : PMem} {O : Nat → Int64} {D : Bool} {n : Nat} {r : Nat}  (h : f_X7_land_12 I P = some (Sum.inr r)) (E : EndX X cX7_land RX7 3 (some .int) 164 (n + 1) r I P O D Q) : Here X cX7_land RX7 3 (some .int) 164 (n + 1) 12 [none, none, none] [] I P O D n Q := by
  unfold f_X7_land_12 at h
  cases h
  exact h_throw (text := "the tape has not so many bytes") (j := 24) tw_0 (by decide) (by decide) rfl dX7_land_12 dX7_land_15 dX7_land_16 dX7_land_18 dX7_land_21 E
def f_X7_land   (I : Mem) (P : PMem) (v1 : Int32) : Option ((Int32 × Mem × PMem) ⊕ Nat) :=
  if v1 < 0 then (f_X7_land_12 I P) else (if v1 ≤ (I 7 0 0 1) then (bnd (upd4 I 7 0 0 1 (0 : Int32)) fun I1' =>
  gd (decide ((P 7 0 0 3) < 2)) <|
  thb (f_X5_readLand (P 7 0 0 3) I1' P v1) fun y1 =>
  bnd (upd4 y1.1 7 0 0 11 (y1.1 5 0 0 1)) fun I2' =>
  if (I2' 5 0 0 0) = 0 then (gd (decide ((y1.2 7 0 0 2) < 2)) <|
  gd (decide ((y1.2 7 0 0 3) < 2)) <|
  bnd (updP y1.2 7 0 0 2 (y1.2 7 0 0 3)) fun P1' =>
  bnd (updP P1' 7 0 0 3 (y1.2 7 0 0 2)) fun P2' =>
  gd (decide ((P2' 7 0 0 2) < 2)) <|
  (f_X0_beginAnew 0 (P2' 7 0 0 2) I2').bind fun y2 =>
  bnd (upd4 y2 7 0 0 7 (0 : Int32)) fun I3' =>
  bnd (upd4 I3' 7 0 0 10 (0 : Int32)) fun I4' =>
  some (Sum.inl ((0 : Int32), I4', P2'))) else (bnd (upd4 I2' 10 0 0 0 ((I2' 10 0 0 0) + (1 : Int32))) fun I5' =>
  some (Sum.inl ((I5' 5 0 0 0), I5', y1.2)))) else (f_X7_land_12 I P))
theorem b_X7_land (X : CX) (Q : State → Prop) {I : Mem} {P : PMem} {O : Nat → Int64} {D : Bool} {n : Nat} {v1 : Int32} {r : (Int32 × Mem × PMem)}  (h : f_X7_land I P v1 = some (Sum.inl r)) (E : EndR X cX7_land RX7 3 (some .int) 164 n (some (.inl r.1)) r.2.1 r.2.2 O D Q) : Here X cX7_land RX7 3 (some .int) 164 n 0 [some (.inr (.inr (7, 0, 0))), some (.inl v1), none] [] I P O D n Q := by
  unfold f_X7_land at h
  refine h_iload_n dX7_land_0 rfl ?_
  refine h_if_lt (tgt := 12) dX7_land_1 (by decide) (fun q1 => ?_) (fun q1 => ?_)
  · rw [if_pos q1] at h
    exact h_mask [false, false, false] (b_X7_land_12 X Q  h E)
  · rw [if_neg q1] at h
    refine h_iload_n dX7_land_4 rfl ?_
    refine h_aload_n dX7_land_5 rfl ?_
    refine g_X7_58  dX7_land_6 ?_
    refine h_icmp_le (tgt := 22) dX7_land_9 (by decide) (fun q2 => ?_) (fun q2 => ?_)
    · rw [if_pos q2] at h
      refine h_aload_n dX7_land_22 rfl ?_
      refine h_iconst (0 : Int32) dX7_land_23 k_iconst_0 ?_
      obtain ⟨I1', e1, h⟩ := bnd_some h
      refine p_X7_58  dX7_land_24 ?_
      refine h_nmI e1 ?_
      refine h_aload_n dX7_land_27 rfl ?_
      refine g_X7_28  dX7_land_28 ?_
      refine h_iload_n dX7_land_31 rfl ?_
      refine h_aload_n dX7_land_32 rfl ?_
      refine g_X7_20  dX7_land_33 ?_
      obtain ⟨g1, h⟩ := gd_some h
      have w1 := of_decide_eq_true g1
      obtain ⟨y1, hh1, h⟩ := thb_R h
      refine h_cVv [.inl v1, .inr (.inr (3, (P 7 0 0 3), 0))] (m_X5_readLand (by omega) hh1) cw_X7_72 dX7_land_36 rfl ok_5 (by decide) rfl (Or.inr rfl) rfl ?_
      refine h_aload_n dX7_land_39 rfl ?_
      refine h_aload_n dX7_land_40 rfl ?_
      refine g_X7_28  dX7_land_41 ?_
      refine g_X7_76  dX7_land_44 ?_
      obtain ⟨I2', e2, h⟩ := bnd_some h
      refine p_X7_54  dX7_land_47 ?_
      refine h_nmI e2 ?_
      refine h_aload_n dX7_land_50 rfl ?_
      refine g_X7_28  dX7_land_51 ?_
      refine g_X7_79  dX7_land_54 ?_
      refine h_if_eq (tgt := 81) dX7_land_57 (by decide) (fun q3 => ?_) (fun q3 => ?_)
      · rw [if_pos q3] at h
        refine h_aload_n dX7_land_81 rfl ?_
        refine g_X7_16  dX7_land_82 ?_
        obtain ⟨g2, h⟩ := gd_some h
        have w2 := of_decide_eq_true g2
        refine h_astore_n dX7_land_85 (by decide) rfl ?_
        refine h_aload_n dX7_land_86 rfl ?_
        refine h_aload_n dX7_land_87 rfl ?_
        refine g_X7_20  dX7_land_88 ?_
        obtain ⟨g3, h⟩ := gd_some h
        have w3 := of_decide_eq_true g3
        obtain ⟨P1', e3, h⟩ := bnd_some h
        refine p_X7_16  dX7_land_91 ?_
        refine h_nmP e3 ?_
        refine h_aload_n dX7_land_94 rfl ?_
        refine h_aload_n dX7_land_95 rfl ?_
        obtain ⟨P2', e4, h⟩ := bnd_some h
        refine p_X7_20  dX7_land_96 ?_
        refine h_nmP e4 ?_
        refine h_aload_n dX7_land_99 rfl ?_
        refine g_X7_35  dX7_land_100 ?_
        refine h_aload_n dX7_land_103 rfl ?_
        refine g_X7_16  dX7_land_104 ?_
        obtain ⟨g4, h⟩ := gd_some h
        have w4 := of_decide_eq_true g4
        obtain ⟨y2, hh2, h⟩ := obd_some h
        refine h_cVv [.inr (.inr (3, (P2' 7 0 0 2), 0))] (m_X0_beginAnew (by decide) (by omega) hh2) cw_X7_86 dX7_land_107 rfl (ok_0 (by decide)) (by decide) rfl (Or.inr rfl) rfl ?_
        refine h_aload_n dX7_land_110 rfl ?_
        refine h_iconst (0 : Int32) dX7_land_111 k_iconst_0 ?_
        obtain ⟨I3', e5, h⟩ := bnd_some h
        refine p_X7_90  rfl dX7_land_112 ?_
        refine h_nmI e5 ?_
        refine h_aload_n dX7_land_115 rfl ?_
        refine h_iconst (0 : Int32) dX7_land_116 k_iconst_0 ?_
        obtain ⟨I4', e6, h⟩ := bnd_some h
        refine p_X7_94  rfl dX7_land_117 ?_
        refine h_nmI e6 ?_
        refine h_iconst (0 : Int32) dX7_land_120 k_iconst_0 ?_
        cases h
        exact h_iret dX7_land_121 rfl E
      · rw [if_neg q3] at h
        refine h_aload_n dX7_land_60 rfl ?_
        refine g_X7_35  dX7_land_61 ?_
        refine g_X7_82 (by decide) dX7_land_64 ?_
        refine h_iconst (0 : Int32) dX7_land_67 k_iconst_0 ?_
        refine h_dup2 dX7_land_68 (fun _ => rfl) (fun _ => rfl) ?_
        refine al_10 (by decide) 0 cl_0 dX7_land_69 rfl ?_
        refine h_iconst (1 : Int32) dX7_land_70 k_iconst_1 ?_
        refine h_iadd dX7_land_71 ?_
        obtain ⟨I5', e7, h⟩ := bnd_some h
        refine as_10 (by decide) 0 cl_0 dX7_land_72 rfl ?_
        refine h_nmI e7 ?_
        refine h_aload_n dX7_land_73 rfl ?_
        refine g_X7_28  dX7_land_74 ?_
        refine g_X7_79  dX7_land_77 ?_
        cases h
        exact h_iret dX7_land_80 rfl E
    · rw [if_neg q2] at h
      exact h_mask [false, false, false] (b_X7_land_12 X Q  h E)
theorem bx_X7_land (X : CX) (Q : State → Prop) {I : Mem} {P : PMem} {O : Nat → Int64} {D : Bool} {n : Nat} {v1 : Int32} {r : Nat}  (h : f_X7_land I P v1 = some (Sum.inr r)) (E : EndX X cX7_land RX7 3 (some .int) 164 (n + 1) r I P O D Q) : Here X cX7_land RX7 3 (some .int) 164 (n + 1) 0 [some (.inr (.inr (7, 0, 0))), some (.inl v1), none] [] I P O D n Q := by
  unfold f_X7_land at h
  refine h_iload_n dX7_land_0 rfl ?_
  refine h_if_lt (tgt := 12) dX7_land_1 (by decide) (fun q1 => ?_) (fun q1 => ?_)
  · rw [if_pos q1] at h
    exact h_mask [false, false, false] (bx_X7_land_12 X Q  h E)
  · rw [if_neg q1] at h
    refine h_iload_n dX7_land_4 rfl ?_
    refine h_aload_n dX7_land_5 rfl ?_
    refine g_X7_58  dX7_land_6 ?_
    refine h_icmp_le (tgt := 22) dX7_land_9 (by decide) (fun q2 => ?_) (fun q2 => ?_)
    · rw [if_pos q2] at h
      refine h_aload_n dX7_land_22 rfl ?_
      refine h_iconst (0 : Int32) dX7_land_23 k_iconst_0 ?_
      obtain ⟨I1', e1, h⟩ := bnd_some h
      refine p_X7_58  dX7_land_24 ?_
      refine h_nmI e1 ?_
      refine h_aload_n dX7_land_27 rfl ?_
      refine g_X7_28  dX7_land_28 ?_
      refine h_iload_n dX7_land_31 rfl ?_
      refine h_aload_n dX7_land_32 rfl ?_
      refine g_X7_20  dX7_land_33 ?_
      obtain ⟨g1, h⟩ := gd_some h
      have w1 := of_decide_eq_true g1
      rcases thb_X h with hh1 | ⟨y1, hh1, h⟩
      · exact h_callVX (as := [.inl v1, .inr (.inr (3, (P 7 0 0 3), 0))]) (mx_X5_readLand (by omega) hh1) cw_X7_72 dX7_land_36 rfl ok_5 (by decide) rfl rfl E
      refine h_cVv [.inl v1, .inr (.inr (3, (P 7 0 0 3), 0))] (m_X5_readLand (by omega) hh1) cw_X7_72 dX7_land_36 rfl ok_5 (by decide) rfl (Or.inr rfl) rfl ?_
      refine h_aload_n dX7_land_39 rfl ?_
      refine h_aload_n dX7_land_40 rfl ?_
      refine g_X7_28  dX7_land_41 ?_
      refine g_X7_76  dX7_land_44 ?_
      obtain ⟨I2', e2, h⟩ := bnd_some h
      refine p_X7_54  dX7_land_47 ?_
      refine h_nmI e2 ?_
      refine h_aload_n dX7_land_50 rfl ?_
      refine g_X7_28  dX7_land_51 ?_
      refine g_X7_79  dX7_land_54 ?_
      refine h_if_eq (tgt := 81) dX7_land_57 (by decide) (fun q3 => ?_) (fun q3 => ?_)
      · rw [if_pos q3] at h
        refine h_aload_n dX7_land_81 rfl ?_
        refine g_X7_16  dX7_land_82 ?_
        obtain ⟨g2, h⟩ := gd_some h
        have w2 := of_decide_eq_true g2
        refine h_astore_n dX7_land_85 (by decide) rfl ?_
        refine h_aload_n dX7_land_86 rfl ?_
        refine h_aload_n dX7_land_87 rfl ?_
        refine g_X7_20  dX7_land_88 ?_
        obtain ⟨g3, h⟩ := gd_some h
        have w3 := of_decide_eq_true g3
        obtain ⟨P1', e3, h⟩ := bnd_some h
        refine p_X7_16  dX7_land_91 ?_
        refine h_nmP e3 ?_
        refine h_aload_n dX7_land_94 rfl ?_
        refine h_aload_n dX7_land_95 rfl ?_
        obtain ⟨P2', e4, h⟩ := bnd_some h
        refine p_X7_20  dX7_land_96 ?_
        refine h_nmP e4 ?_
        refine h_aload_n dX7_land_99 rfl ?_
        refine g_X7_35  dX7_land_100 ?_
        refine h_aload_n dX7_land_103 rfl ?_
        refine g_X7_16  dX7_land_104 ?_
        obtain ⟨g4, h⟩ := gd_some h
        have w4 := of_decide_eq_true g4
        obtain ⟨y2, hh2, h⟩ := obd_some h
        refine h_cVv [.inr (.inr (3, (P2' 7 0 0 2), 0))] (m_X0_beginAnew (by decide) (by omega) hh2) cw_X7_86 dX7_land_107 rfl (ok_0 (by decide)) (by decide) rfl (Or.inr rfl) rfl ?_
        refine h_aload_n dX7_land_110 rfl ?_
        refine h_iconst (0 : Int32) dX7_land_111 k_iconst_0 ?_
        obtain ⟨I3', e5, h⟩ := bnd_some h
        refine p_X7_90  rfl dX7_land_112 ?_
        refine h_nmI e5 ?_
        refine h_aload_n dX7_land_115 rfl ?_
        refine h_iconst (0 : Int32) dX7_land_116 k_iconst_0 ?_
        obtain ⟨I4', e6, h⟩ := bnd_some h
        refine p_X7_94  rfl dX7_land_117 ?_
        refine h_nmI e6 ?_
        refine h_iconst (0 : Int32) dX7_land_120 k_iconst_0 ?_
        cases h
      · rw [if_neg q3] at h
        refine h_aload_n dX7_land_60 rfl ?_
        refine g_X7_35  dX7_land_61 ?_
        refine g_X7_82 (by decide) dX7_land_64 ?_
        refine h_iconst (0 : Int32) dX7_land_67 k_iconst_0 ?_
        refine h_dup2 dX7_land_68 (fun _ => rfl) (fun _ => rfl) ?_
        refine al_10 (by decide) 0 cl_0 dX7_land_69 rfl ?_
        refine h_iconst (1 : Int32) dX7_land_70 k_iconst_1 ?_
        refine h_iadd dX7_land_71 ?_
        obtain ⟨I5', e7, h⟩ := bnd_some h
        refine as_10 (by decide) 0 cl_0 dX7_land_72 rfl ?_
        refine h_nmI e7 ?_
        refine h_aload_n dX7_land_73 rfl ?_
        refine g_X7_28  dX7_land_74 ?_
        refine g_X7_79  dX7_land_77 ?_
        cases h
    · rw [if_neg q2] at h
      exact h_mask [false, false, false] (bx_X7_land_12 X Q  h E)
theorem m_X7_land {I : Mem} {P : PMem} {O : Nat → Int64} {D : Bool} {n : Nat} {v1 : Int32} {r : (Int32 × Mem × PMem)}  (h : f_X7_land I P v1 = some (Sum.inl r)) : MethR yX7_land cX7_land 3 (some .int) 164 [.inr (.inr (7, 0, 0)), .inl v1] I P O D n (some (.inl r.1)) r.2.1 r.2.2 O D n := meth_R (Nat.le_refl _) (by decide) rfl (Nat.le_of_ble_eq_true rfl) rfl (fun X Q E => b_X7_land X Q  h E)
theorem mx_X7_land {I : Mem} {P : PMem} {O : Nat → Int64} {D : Bool} {n : Nat} {v1 : Int32} {r : Nat}  (h : f_X7_land I P v1 = some (Sum.inr r)) : MethX yX7_land cX7_land 3 (some .int) 164 [.inr (.inr (7, 0, 0)), .inl v1] I P O D n r I P O D (n + 1) := meth_X (Nat.le_succ _) (by decide) rfl (Nat.le_of_ble_eq_true rfl) rfl (fun X Q E => bx_X7_land X Q  h E)
def f_X7_fault  (I : Mem)  : Option (Int32) :=
  some (I 7 0 0 11)
theorem b_X7_fault (X : CX) (Q : State → Prop) {I : Mem} {P : PMem} {O : Nat → Int64} {D : Bool} {n : Nat} {r : (Int32)}  (h : f_X7_fault I = some r) (E : EndR X cX7_fault RX7 1 (some .int) 2 n (some (.inl r)) I P O D Q) : Here X cX7_fault RX7 1 (some .int) 2 n 0 [some (.inr (.inr (7, 0, 0)))] [] I P O D n Q := by
  unfold f_X7_fault at h
  refine h_aload_n dX7_fault_0 rfl ?_
  refine g_X7_54  dX7_fault_1 ?_
  cases h
  exact h_iret dX7_fault_4 rfl E
theorem m_X7_fault {I : Mem} {P : PMem} {O : Nat → Int64} {D : Bool} {n : Nat}  {r : (Int32)}  (h : f_X7_fault I = some r) : MethR yX7_fault cX7_fault 1 (some .int) 2 [.inr (.inr (7, 0, 0))] I P O D n (some (.inl r)) I P O D n := meth_R (Nat.le_refl _) (by decide) rfl (Nat.le_of_ble_eq_true rfl) rfl (fun X Q E => b_X7_fault X Q  h E)
def f_X7_settledCourt   (I : Mem) (P : PMem) : Option (Mem × PMem) :=
  if (I 7 0 0 10) = 0 then (gd (decide ((P 7 0 0 2) < 2)) <|
  (f_X1_load 0 (P 7 0 0 2) 0 I P).bind fun y1 =>
  (f_X1_settle y1.2 0 y1.1).bind fun y2 =>
  bnd (upd4 y2 7 0 0 10 (1 : Int32)) fun I1' =>
  some (I1', y1.2)) else (some (I, P))
theorem b_X7_settledCourt (X : CX) (Q : State → Prop) {I : Mem} {P : PMem} {O : Nat → Int64} {D : Bool} {n : Nat} {r : (Mem × PMem)}  (h : f_X7_settledCourt I P = some r) (E : EndR X cX7_settledCourt RX7 1 (some (.object "ApartBench$Court")) 7 n (some (.inr (.inr (1, 0, 0)))) r.1 r.2 O D Q) : Here X cX7_settledCourt RX7 1 (some (.object "ApartBench$Court")) 7 n 0 [some (.inr (.inr (7, 0, 0)))] [] I P O D n Q := by
  unfold f_X7_settledCourt at h
  refine h_aload_n dX7_settledCourt_0 rfl ?_
  refine g_X7_94  dX7_settledCourt_1 ?_
  refine h_if_ne (tgt := 34) dX7_settledCourt_4 (by decide) (fun q1 => ?_) (fun q1 => ?_)
  · rw [if_neg q1] at h
    refine h_aload_n dX7_settledCourt_34 rfl ?_
    refine g_X7_47  dX7_settledCourt_35 ?_
    cases h
    exact h_aret dX7_settledCourt_38 "ApartBench$Court" rfl E
  · rw [if_pos q1] at h
    refine h_aload_n dX7_settledCourt_7 rfl ?_
    refine g_X7_47  dX7_settledCourt_8 ?_
    refine h_aload_n dX7_settledCourt_11 rfl ?_
    refine g_X7_16  dX7_settledCourt_12 ?_
    obtain ⟨g1, h⟩ := gd_some h
    have w1 := of_decide_eq_true g1
    refine h_aload_n dX7_settledCourt_15 rfl ?_
    refine g_X7_35  dX7_settledCourt_16 ?_
    obtain ⟨y1, hh1, h⟩ := obd_some h
    refine h_cVv [.inr (.inr (3, (P 7 0 0 2), 0)), .inr (.inr (0, 0, 0))] (m_X1_load (by decide) (by omega) (by decide) hh1) cw_X7_247 dX7_settledCourt_19 rfl (ok_1 (by decide)) (by decide) rfl (Or.inr rfl) rfl ?_
    refine h_aload_n dX7_settledCourt_22 rfl ?_
    refine g_X7_47  dX7_settledCourt_23 ?_
    obtain ⟨y2, hh2, h⟩ := obd_some h
    refine h_cVv [] (m_X1_settle (by decide) hh2) cw_X7_263 dX7_settledCourt_26 rfl (ok_1 (by decide)) (by decide) rfl (Or.inr rfl) rfl ?_
    refine h_aload_n dX7_settledCourt_29 rfl ?_
    refine h_iconst (1 : Int32) dX7_settledCourt_30 k_iconst_1 ?_
    obtain ⟨I1', e1, h⟩ := bnd_some h
    refine p_X7_94  rfl dX7_settledCourt_31 ?_
    refine h_nmI e1 ?_
    refine h_aload_n dX7_settledCourt_34 rfl ?_
    refine g_X7_47  dX7_settledCourt_35 ?_
    cases h
    exact h_aret dX7_settledCourt_38 "ApartBench$Court" rfl E
theorem m_X7_settledCourt {I : Mem} {P : PMem} {O : Nat → Int64} {D : Bool} {n : Nat}  {r : (Mem × PMem)}  (h : f_X7_settledCourt I P = some r) : MethR yX7_settledCourt cX7_settledCourt 1 (some (.object "ApartBench$Court")) 7 [.inr (.inr (7, 0, 0))] I P O D n (some (.inr (.inr (1, 0, 0)))) r.1 r.2 O D n := meth_R (Nat.le_refl _) (by decide) rfl (Nat.le_of_ble_eq_true rfl) rfl (fun X Q E => b_X7_settledCourt X Q  h E)
def f_X7_count   (I : Mem) (P : PMem) (v1 : Int32) : Option ((Int32 × Mem × PMem) ⊕ Nat) :=
  (if v1 = (0 : Int32) then (gd (decide ((P 7 0 0 2) < 2)) <|
  some (Sum.inl ((I 3 (P 7 0 0 2) 0 0), I, P))) else (if v1 = (1 : Int32) then (gd (decide ((P 7 0 0 2) < 2)) <|
  some (Sum.inl ((I 3 (P 7 0 0 2) 0 2), I, P))) else (if v1 = (2 : Int32) then (gd (decide ((P 7 0 0 2) < 2)) <|
  (f_X3_gossipTenths I (P 7 0 0 2)).bind fun y1 =>
  some (Sum.inl (y1, I, P))) else (if v1 = (3 : Int32) then (gd (decide ((P 7 0 0 2) < 2)) <|
  some (Sum.inl ((I 3 (P 7 0 0 2) 0 7), I, P))) else (if v1 = (4 : Int32) then (gd (decide ((P 7 0 0 2) < 2)) <|
  some (Sum.inl ((I 3 (P 7 0 0 2) 0 13), I, P))) else (if v1 = (5 : Int32) then (some (Sum.inl ((I 0 0 0 1), I, P))) else (if v1 = (6 : Int32) then (some (Sum.inl ((I 6 0 0 3), I, P))) else (if v1 = (7 : Int32) then (some (Sum.inl ((I 6 1 0 3), I, P))) else (if v1 = (8 : Int32) then (some (Sum.inl ((I 6 2 0 3), I, P))) else (if v1 = (9 : Int32) then ((f_X7_settledCourt I P).bind fun y2 =>
  (f_X1_howManyGuilty y2.1 y2.2 0).bind fun y3 =>
  some (Sum.inl (y3, y2.1, y2.2))) else (if v1 = (10 : Int32) then (some (Sum.inl ((I 6 3 0 3), I, P))) else (if v1 = (11 : Int32) then (some (Sum.inl ((I 6 4 0 3), I, P))) else (if v1 = (12 : Int32) then (some (Sum.inl ((I 7 0 0 1), I, P))) else (if v1 = (13 : Int32) then (some (Sum.inl ((I 10 0 0 0), I, P))) else (if v1 = (14 : Int32) then (some (Sum.inl ((I 10 0 0 1), I, P))) else (if v1 = (15 : Int32) then (some (Sum.inl ((I 10 0 0 2), I, P))) else (some (Sum.inr 1))))))))))))))))))
theorem b_X7_count (X : CX) (Q : State → Prop) {I : Mem} {P : PMem} {O : Nat → Int64} {D : Bool} {n : Nat} {v1 : Int32} {r : (Int32 × Mem × PMem)}  (h : f_X7_count I P v1 = some (Sum.inl r)) (E : EndR X cX7_count RX7 2 (some .int) 8 n (some (.inl r.1)) r.2.1 r.2.2 O D Q) : Here X cX7_count RX7 2 (some .int) 8 n 0 [some (.inr (.inr (7, 0, 0))), some (.inl v1)] [] I P O D n Q := by
  unfold f_X7_count at h
  refine h_iload_n dX7_count_0 rfl ?_
  by_cases q1 : v1 = (0 : Int32)
  · rw [if_pos q1] at h
    refine h_tswIn (tgt := 80) 0 dX7_count_1 (by rw [q1]; decide) (by decide) rfl (by decide) ?_
    refine h_aload_n dX7_count_80 rfl ?_
    refine g_X7_16  dX7_count_81 ?_
    obtain ⟨g1, h⟩ := gd_some h
    have w1 := of_decide_eq_true g1
    refine g_X7_97 (by omega) dX7_count_84 ?_
    cases h
    exact h_iret dX7_count_87 rfl E
  · rw [if_neg q1] at h
    by_cases q2 : v1 = (1 : Int32)
    · rw [if_pos q2] at h
      refine h_tswIn (tgt := 88) 1 dX7_count_1 (by rw [q2]; decide) (by decide) rfl (by decide) ?_
      refine h_aload_n dX7_count_88 rfl ?_
      refine g_X7_16  dX7_count_89 ?_
      obtain ⟨g2, h⟩ := gd_some h
      have w2 := of_decide_eq_true g2
      refine g_X7_100 (by omega) dX7_count_92 ?_
      cases h
      exact h_iret dX7_count_95 rfl E
    · rw [if_neg q2] at h
      by_cases q3 : v1 = (2 : Int32)
      · rw [if_pos q3] at h
        refine h_tswIn (tgt := 96) 2 dX7_count_1 (by rw [q3]; decide) (by decide) rfl (by decide) ?_
        refine h_aload_n dX7_count_96 rfl ?_
        refine g_X7_16  dX7_count_97 ?_
        obtain ⟨g3, h⟩ := gd_some h
        have w3 := of_decide_eq_true g3
        obtain ⟨y1, hh1, h⟩ := obd_some h
        refine h_cVi [] (m_X3_gossipTenths (by omega) hh1) cw_X7_103 dX7_count_100 rfl (ok_3 (by omega)) (by decide) rfl (Or.inr rfl) rfl ?_
        cases h
        exact h_iret dX7_count_103 rfl E
      · rw [if_neg q3] at h
        by_cases q4 : v1 = (3 : Int32)
        · rw [if_pos q4] at h
          refine h_tswIn (tgt := 104) 3 dX7_count_1 (by rw [q4]; decide) (by decide) rfl (by decide) ?_
          refine h_aload_n dX7_count_104 rfl ?_
          refine g_X7_16  dX7_count_105 ?_
          obtain ⟨g4, h⟩ := gd_some h
          have w4 := of_decide_eq_true g4
          refine g_X7_107 (by omega) dX7_count_108 ?_
          cases h
          exact h_iret dX7_count_111 rfl E
        · rw [if_neg q4] at h
          by_cases q5 : v1 = (4 : Int32)
          · rw [if_pos q5] at h
            refine h_tswIn (tgt := 112) 4 dX7_count_1 (by rw [q5]; decide) (by decide) rfl (by decide) ?_
            refine h_aload_n dX7_count_112 rfl ?_
            refine g_X7_16  dX7_count_113 ?_
            obtain ⟨g5, h⟩ := gd_some h
            have w5 := of_decide_eq_true g5
            refine g_X7_110 (by omega) dX7_count_116 ?_
            cases h
            exact h_iret dX7_count_119 rfl E
          · rw [if_neg q5] at h
            by_cases q6 : v1 = (5 : Int32)
            · rw [if_pos q6] at h
              refine h_tswIn (tgt := 120) 5 dX7_count_1 (by rw [q6]; decide) (by decide) rfl (by decide) ?_
              refine h_aload_n dX7_count_120 rfl ?_
              refine g_X7_35  dX7_count_121 ?_
              refine g_X7_113 (by decide) dX7_count_124 ?_
              cases h
              exact h_iret dX7_count_127 rfl E
            · rw [if_neg q6] at h
              by_cases q7 : v1 = (6 : Int32)
              · rw [if_pos q7] at h
                refine h_tswIn (tgt := 128) 6 dX7_count_1 (by rw [q7]; decide) (by decide) rfl (by decide) ?_
                refine h_aload_n dX7_count_128 rfl ?_
                refine g_X7_35  dX7_count_129 ?_
                refine g_X7_116 (by decide) dX7_count_132 ?_
                refine g_X7_120 (by decide) dX7_count_135 ?_
                cases h
                exact h_iret dX7_count_138 rfl E
              · rw [if_neg q7] at h
                by_cases q8 : v1 = (7 : Int32)
                · rw [if_pos q8] at h
                  refine h_tswIn (tgt := 139) 7 dX7_count_1 (by rw [q8]; decide) (by decide) rfl (by decide) ?_
                  refine h_aload_n dX7_count_139 rfl ?_
                  refine g_X7_35  dX7_count_140 ?_
                  refine g_X7_125 (by decide) dX7_count_143 ?_
                  refine g_X7_120 (by decide) dX7_count_146 ?_
                  cases h
                  exact h_iret dX7_count_149 rfl E
                · rw [if_neg q8] at h
                  by_cases q9 : v1 = (8 : Int32)
                  · rw [if_pos q9] at h
                    refine h_tswIn (tgt := 150) 8 dX7_count_1 (by rw [q9]; decide) (by decide) rfl (by decide) ?_
                    refine h_aload_n dX7_count_150 rfl ?_
                    refine g_X7_35  dX7_count_151 ?_
                    refine g_X7_128 (by decide) dX7_count_154 ?_
                    refine g_X7_120 (by decide) dX7_count_157 ?_
                    cases h
                    exact h_iret dX7_count_160 rfl E
                  · rw [if_neg q9] at h
                    by_cases q10 : v1 = (9 : Int32)
                    · rw [if_pos q10] at h
                      refine h_tswIn (tgt := 161) 9 dX7_count_1 (by rw [q10]; decide) (by decide) rfl (by decide) ?_
                      refine h_aload_n dX7_count_161 rfl ?_
                      obtain ⟨y2, hh2, h⟩ := obd_some h
                      refine h_cVa [] (m_X7_settledCourt  hh2) cw_X7_131 dX7_count_162 rfl ok_7 (by decide) rfl (Or.inr rfl) rfl ?_
                      obtain ⟨y3, hh3, h⟩ := obd_some h
                      refine h_cVi [] (m_X1_howManyGuilty (by decide) hh3) cw_X7_135 dX7_count_165 rfl (ok_1 (by decide)) (by decide) rfl (Or.inr rfl) rfl ?_
                      cases h
                      exact h_iret dX7_count_168 rfl E
                    · rw [if_neg q10] at h
                      by_cases q11 : v1 = (10 : Int32)
                      · rw [if_pos q11] at h
                        refine h_tswIn (tgt := 169) 10 dX7_count_1 (by rw [q11]; decide) (by decide) rfl (by decide) ?_
                        refine h_aload_n dX7_count_169 rfl ?_
                        refine g_X7_35  dX7_count_170 ?_
                        refine g_X7_138 (by decide) dX7_count_173 ?_
                        refine g_X7_120 (by decide) dX7_count_176 ?_
                        cases h
                        exact h_iret dX7_count_179 rfl E
                      · rw [if_neg q11] at h
                        by_cases q12 : v1 = (11 : Int32)
                        · rw [if_pos q12] at h
                          refine h_tswIn (tgt := 180) 11 dX7_count_1 (by rw [q12]; decide) (by decide) rfl (by decide) ?_
                          refine h_aload_n dX7_count_180 rfl ?_
                          refine g_X7_35  dX7_count_181 ?_
                          refine g_X7_141 (by decide) dX7_count_184 ?_
                          refine g_X7_120 (by decide) dX7_count_187 ?_
                          cases h
                          exact h_iret dX7_count_190 rfl E
                        · rw [if_neg q12] at h
                          by_cases q13 : v1 = (12 : Int32)
                          · rw [if_pos q13] at h
                            refine h_tswIn (tgt := 191) 12 dX7_count_1 (by rw [q13]; decide) (by decide) rfl (by decide) ?_
                            refine h_aload_n dX7_count_191 rfl ?_
                            refine g_X7_58  dX7_count_192 ?_
                            cases h
                            exact h_iret dX7_count_195 rfl E
                          · rw [if_neg q13] at h
                            by_cases q14 : v1 = (13 : Int32)
                            · rw [if_pos q14] at h
                              refine h_tswIn (tgt := 196) 13 dX7_count_1 (by rw [q14]; decide) (by decide) rfl (by decide) ?_
                              refine h_aload_n dX7_count_196 rfl ?_
                              refine g_X7_35  dX7_count_197 ?_
                              refine g_X7_82 (by decide) dX7_count_200 ?_
                              refine h_iconst (0 : Int32) dX7_count_203 k_iconst_0 ?_
                              refine al_10 (by decide) 0 cl_0 dX7_count_204 rfl ?_
                              cases h
                              exact h_iret dX7_count_205 rfl E
                            · rw [if_neg q14] at h
                              by_cases q15 : v1 = (14 : Int32)
                              · rw [if_pos q15] at h
                                refine h_tswIn (tgt := 206) 14 dX7_count_1 (by rw [q15]; decide) (by decide) rfl (by decide) ?_
                                refine h_aload_n dX7_count_206 rfl ?_
                                refine g_X7_35  dX7_count_207 ?_
                                refine g_X7_82 (by decide) dX7_count_210 ?_
                                refine h_iconst (1 : Int32) dX7_count_213 k_iconst_1 ?_
                                refine al_10 (by decide) 1 cl_1 dX7_count_214 rfl ?_
                                cases h
                                exact h_iret dX7_count_215 rfl E
                              · rw [if_neg q15] at h
                                by_cases q16 : v1 = (15 : Int32)
                                · rw [if_pos q16] at h
                                  refine h_tswIn (tgt := 216) 15 dX7_count_1 (by rw [q16]; decide) (by decide) rfl (by decide) ?_
                                  refine h_aload_n dX7_count_216 rfl ?_
                                  refine g_X7_35  dX7_count_217 ?_
                                  refine g_X7_82 (by decide) dX7_count_220 ?_
                                  refine h_iconst (2 : Int32) dX7_count_223 k_iconst_2 ?_
                                  refine al_10 (by decide) 2 cl_2 dX7_count_224 rfl ?_
                                  cases h
                                  exact h_iret dX7_count_225 rfl E
                                · rw [if_neg q16] at h
                                  refine h_tswOut (tgt := 226) dX7_count_1 ?_ (by decide) ?_
                                  · have n0 : v1.toInt ≠ 0 := fun e => q1 (Int32.toInt_inj.mp (e.trans (by decide)))
                                    have n1 : v1.toInt ≠ 1 := fun e => q2 (Int32.toInt_inj.mp (e.trans (by decide)))
                                    have n2 : v1.toInt ≠ 2 := fun e => q3 (Int32.toInt_inj.mp (e.trans (by decide)))
                                    have n3 : v1.toInt ≠ 3 := fun e => q4 (Int32.toInt_inj.mp (e.trans (by decide)))
                                    have n4 : v1.toInt ≠ 4 := fun e => q5 (Int32.toInt_inj.mp (e.trans (by decide)))
                                    have n5 : v1.toInt ≠ 5 := fun e => q6 (Int32.toInt_inj.mp (e.trans (by decide)))
                                    have n6 : v1.toInt ≠ 6 := fun e => q7 (Int32.toInt_inj.mp (e.trans (by decide)))
                                    have n7 : v1.toInt ≠ 7 := fun e => q8 (Int32.toInt_inj.mp (e.trans (by decide)))
                                    have n8 : v1.toInt ≠ 8 := fun e => q9 (Int32.toInt_inj.mp (e.trans (by decide)))
                                    have n9 : v1.toInt ≠ 9 := fun e => q10 (Int32.toInt_inj.mp (e.trans (by decide)))
                                    have n10 : v1.toInt ≠ 10 := fun e => q11 (Int32.toInt_inj.mp (e.trans (by decide)))
                                    have n11 : v1.toInt ≠ 11 := fun e => q12 (Int32.toInt_inj.mp (e.trans (by decide)))
                                    have n12 : v1.toInt ≠ 12 := fun e => q13 (Int32.toInt_inj.mp (e.trans (by decide)))
                                    have n13 : v1.toInt ≠ 13 := fun e => q14 (Int32.toInt_inj.mp (e.trans (by decide)))
                                    have n14 : v1.toInt ≠ 14 := fun e => q15 (Int32.toInt_inj.mp (e.trans (by decide)))
                                    have n15 : v1.toInt ≠ 15 := fun e => q16 (Int32.toInt_inj.mp (e.trans (by decide)))
                                    omega
                                  · cases h
theorem bx_X7_count (X : CX) (Q : State → Prop) {I : Mem} {P : PMem} {O : Nat → Int64} {D : Bool} {n : Nat} {v1 : Int32} {r : Nat}  (h : f_X7_count I P v1 = some (Sum.inr r)) (E : EndX X cX7_count RX7 2 (some .int) 8 (n + 1) r I P O D Q) : Here X cX7_count RX7 2 (some .int) 8 (n + 1) 0 [some (.inr (.inr (7, 0, 0))), some (.inl v1)] [] I P O D n Q := by
  unfold f_X7_count at h
  refine h_iload_n dX7_count_0 rfl ?_
  by_cases q1 : v1 = (0 : Int32)
  · rw [if_pos q1] at h
    refine h_tswIn (tgt := 80) 0 dX7_count_1 (by rw [q1]; decide) (by decide) rfl (by decide) ?_
    refine h_aload_n dX7_count_80 rfl ?_
    refine g_X7_16  dX7_count_81 ?_
    obtain ⟨g1, h⟩ := gd_some h
    have w1 := of_decide_eq_true g1
    refine g_X7_97 (by omega) dX7_count_84 ?_
    cases h
  · rw [if_neg q1] at h
    by_cases q2 : v1 = (1 : Int32)
    · rw [if_pos q2] at h
      refine h_tswIn (tgt := 88) 1 dX7_count_1 (by rw [q2]; decide) (by decide) rfl (by decide) ?_
      refine h_aload_n dX7_count_88 rfl ?_
      refine g_X7_16  dX7_count_89 ?_
      obtain ⟨g2, h⟩ := gd_some h
      have w2 := of_decide_eq_true g2
      refine g_X7_100 (by omega) dX7_count_92 ?_
      cases h
    · rw [if_neg q2] at h
      by_cases q3 : v1 = (2 : Int32)
      · rw [if_pos q3] at h
        refine h_tswIn (tgt := 96) 2 dX7_count_1 (by rw [q3]; decide) (by decide) rfl (by decide) ?_
        refine h_aload_n dX7_count_96 rfl ?_
        refine g_X7_16  dX7_count_97 ?_
        obtain ⟨g3, h⟩ := gd_some h
        have w3 := of_decide_eq_true g3
        obtain ⟨y1, hh1, h⟩ := obd_some h
        refine h_cVi [] (m_X3_gossipTenths (by omega) hh1) cw_X7_103 dX7_count_100 rfl (ok_3 (by omega)) (by decide) rfl (Or.inr rfl) rfl ?_
        cases h
      · rw [if_neg q3] at h
        by_cases q4 : v1 = (3 : Int32)
        · rw [if_pos q4] at h
          refine h_tswIn (tgt := 104) 3 dX7_count_1 (by rw [q4]; decide) (by decide) rfl (by decide) ?_
          refine h_aload_n dX7_count_104 rfl ?_
          refine g_X7_16  dX7_count_105 ?_
          obtain ⟨g4, h⟩ := gd_some h
          have w4 := of_decide_eq_true g4
          refine g_X7_107 (by omega) dX7_count_108 ?_
          cases h
        · rw [if_neg q4] at h
          by_cases q5 : v1 = (4 : Int32)
          · rw [if_pos q5] at h
            refine h_tswIn (tgt := 112) 4 dX7_count_1 (by rw [q5]; decide) (by decide) rfl (by decide) ?_
            refine h_aload_n dX7_count_112 rfl ?_
            refine g_X7_16  dX7_count_113 ?_
            obtain ⟨g5, h⟩ := gd_some h
            have w5 := of_decide_eq_true g5
            refine g_X7_110 (by omega) dX7_count_116 ?_
            cases h
          · rw [if_neg q5] at h
            by_cases q6 : v1 = (5 : Int32)
            · rw [if_pos q6] at h
              refine h_tswIn (tgt := 120) 5 dX7_count_1 (by rw [q6]; decide) (by decide) rfl (by decide) ?_
              refine h_aload_n dX7_count_120 rfl ?_
              refine g_X7_35  dX7_count_121 ?_
              refine g_X7_113 (by decide) dX7_count_124 ?_
              cases h
            · rw [if_neg q6] at h
              by_cases q7 : v1 = (6 : Int32)
              · rw [if_pos q7] at h
                refine h_tswIn (tgt := 128) 6 dX7_count_1 (by rw [q7]; decide) (by decide) rfl (by decide) ?_
                refine h_aload_n dX7_count_128 rfl ?_
                refine g_X7_35  dX7_count_129 ?_
                refine g_X7_116 (by decide) dX7_count_132 ?_
                refine g_X7_120 (by decide) dX7_count_135 ?_
                cases h
              · rw [if_neg q7] at h
                by_cases q8 : v1 = (7 : Int32)
                · rw [if_pos q8] at h
                  refine h_tswIn (tgt := 139) 7 dX7_count_1 (by rw [q8]; decide) (by decide) rfl (by decide) ?_
                  refine h_aload_n dX7_count_139 rfl ?_
                  refine g_X7_35  dX7_count_140 ?_
                  refine g_X7_125 (by decide) dX7_count_143 ?_
                  refine g_X7_120 (by decide) dX7_count_146 ?_
                  cases h
                · rw [if_neg q8] at h
                  by_cases q9 : v1 = (8 : Int32)
                  · rw [if_pos q9] at h
                    refine h_tswIn (tgt := 150) 8 dX7_count_1 (by rw [q9]; decide) (by decide) rfl (by decide) ?_
                    refine h_aload_n dX7_count_150 rfl ?_
                    refine g_X7_35  dX7_count_151 ?_
                    refine g_X7_128 (by decide) dX7_count_154 ?_
                    refine g_X7_120 (by decide) dX7_count_157 ?_
                    cases h
                  · rw [if_neg q9] at h
                    by_cases q10 : v1 = (9 : Int32)
                    · rw [if_pos q10] at h
                      refine h_tswIn (tgt := 161) 9 dX7_count_1 (by rw [q10]; decide) (by decide) rfl (by decide) ?_
                      refine h_aload_n dX7_count_161 rfl ?_
                      obtain ⟨y2, hh2, h⟩ := obd_some h
                      refine h_cVa [] (m_X7_settledCourt  hh2) cw_X7_131 dX7_count_162 rfl ok_7 (by decide) rfl (Or.inr rfl) rfl ?_
                      obtain ⟨y3, hh3, h⟩ := obd_some h
                      refine h_cVi [] (m_X1_howManyGuilty (by decide) hh3) cw_X7_135 dX7_count_165 rfl (ok_1 (by decide)) (by decide) rfl (Or.inr rfl) rfl ?_
                      cases h
                    · rw [if_neg q10] at h
                      by_cases q11 : v1 = (10 : Int32)
                      · rw [if_pos q11] at h
                        refine h_tswIn (tgt := 169) 10 dX7_count_1 (by rw [q11]; decide) (by decide) rfl (by decide) ?_
                        refine h_aload_n dX7_count_169 rfl ?_
                        refine g_X7_35  dX7_count_170 ?_
                        refine g_X7_138 (by decide) dX7_count_173 ?_
                        refine g_X7_120 (by decide) dX7_count_176 ?_
                        cases h
                      · rw [if_neg q11] at h
                        by_cases q12 : v1 = (11 : Int32)
                        · rw [if_pos q12] at h
                          refine h_tswIn (tgt := 180) 11 dX7_count_1 (by rw [q12]; decide) (by decide) rfl (by decide) ?_
                          refine h_aload_n dX7_count_180 rfl ?_
                          refine g_X7_35  dX7_count_181 ?_
                          refine g_X7_141 (by decide) dX7_count_184 ?_
                          refine g_X7_120 (by decide) dX7_count_187 ?_
                          cases h
                        · rw [if_neg q12] at h
                          by_cases q13 : v1 = (12 : Int32)
                          · rw [if_pos q13] at h
                            refine h_tswIn (tgt := 191) 12 dX7_count_1 (by rw [q13]; decide) (by decide) rfl (by decide) ?_
                            refine h_aload_n dX7_count_191 rfl ?_
                            refine g_X7_58  dX7_count_192 ?_
                            cases h
                          · rw [if_neg q13] at h
                            by_cases q14 : v1 = (13 : Int32)
                            · rw [if_pos q14] at h
                              refine h_tswIn (tgt := 196) 13 dX7_count_1 (by rw [q14]; decide) (by decide) rfl (by decide) ?_
                              refine h_aload_n dX7_count_196 rfl ?_
                              refine g_X7_35  dX7_count_197 ?_
                              refine g_X7_82 (by decide) dX7_count_200 ?_
                              refine h_iconst (0 : Int32) dX7_count_203 k_iconst_0 ?_
                              refine al_10 (by decide) 0 cl_0 dX7_count_204 rfl ?_
                              cases h
                            · rw [if_neg q14] at h
                              by_cases q15 : v1 = (14 : Int32)
                              · rw [if_pos q15] at h
                                refine h_tswIn (tgt := 206) 14 dX7_count_1 (by rw [q15]; decide) (by decide) rfl (by decide) ?_
                                refine h_aload_n dX7_count_206 rfl ?_
                                refine g_X7_35  dX7_count_207 ?_
                                refine g_X7_82 (by decide) dX7_count_210 ?_
                                refine h_iconst (1 : Int32) dX7_count_213 k_iconst_1 ?_
                                refine al_10 (by decide) 1 cl_1 dX7_count_214 rfl ?_
                                cases h
                              · rw [if_neg q15] at h
                                by_cases q16 : v1 = (15 : Int32)
                                · rw [if_pos q16] at h
                                  refine h_tswIn (tgt := 216) 15 dX7_count_1 (by rw [q16]; decide) (by decide) rfl (by decide) ?_
                                  refine h_aload_n dX7_count_216 rfl ?_
                                  refine g_X7_35  dX7_count_217 ?_
                                  refine g_X7_82 (by decide) dX7_count_220 ?_
                                  refine h_iconst (2 : Int32) dX7_count_223 k_iconst_2 ?_
                                  refine al_10 (by decide) 2 cl_2 dX7_count_224 rfl ?_
                                  cases h
                                · rw [if_neg q16] at h
                                  refine h_tswOut (tgt := 226) dX7_count_1 ?_ (by decide) ?_
                                  · have n0 : v1.toInt ≠ 0 := fun e => q1 (Int32.toInt_inj.mp (e.trans (by decide)))
                                    have n1 : v1.toInt ≠ 1 := fun e => q2 (Int32.toInt_inj.mp (e.trans (by decide)))
                                    have n2 : v1.toInt ≠ 2 := fun e => q3 (Int32.toInt_inj.mp (e.trans (by decide)))
                                    have n3 : v1.toInt ≠ 3 := fun e => q4 (Int32.toInt_inj.mp (e.trans (by decide)))
                                    have n4 : v1.toInt ≠ 4 := fun e => q5 (Int32.toInt_inj.mp (e.trans (by decide)))
                                    have n5 : v1.toInt ≠ 5 := fun e => q6 (Int32.toInt_inj.mp (e.trans (by decide)))
                                    have n6 : v1.toInt ≠ 6 := fun e => q7 (Int32.toInt_inj.mp (e.trans (by decide)))
                                    have n7 : v1.toInt ≠ 7 := fun e => q8 (Int32.toInt_inj.mp (e.trans (by decide)))
                                    have n8 : v1.toInt ≠ 8 := fun e => q9 (Int32.toInt_inj.mp (e.trans (by decide)))
                                    have n9 : v1.toInt ≠ 9 := fun e => q10 (Int32.toInt_inj.mp (e.trans (by decide)))
                                    have n10 : v1.toInt ≠ 10 := fun e => q11 (Int32.toInt_inj.mp (e.trans (by decide)))
                                    have n11 : v1.toInt ≠ 11 := fun e => q12 (Int32.toInt_inj.mp (e.trans (by decide)))
                                    have n12 : v1.toInt ≠ 12 := fun e => q13 (Int32.toInt_inj.mp (e.trans (by decide)))
                                    have n13 : v1.toInt ≠ 13 := fun e => q14 (Int32.toInt_inj.mp (e.trans (by decide)))
                                    have n14 : v1.toInt ≠ 14 := fun e => q15 (Int32.toInt_inj.mp (e.trans (by decide)))
                                    have n15 : v1.toInt ≠ 15 := fun e => q16 (Int32.toInt_inj.mp (e.trans (by decide)))
                                    omega
                                  · cases h
                                    exact h_throw (text := "no such count") (j := 15) tw_1 (by decide) (by decide) rfl dX7_count_226 dX7_count_229 dX7_count_230 dX7_count_232 dX7_count_235 E
theorem m_X7_count {I : Mem} {P : PMem} {O : Nat → Int64} {D : Bool} {n : Nat} {v1 : Int32} {r : (Int32 × Mem × PMem)}  (h : f_X7_count I P v1 = some (Sum.inl r)) : MethR yX7_count cX7_count 2 (some .int) 8 [.inr (.inr (7, 0, 0)), .inl v1] I P O D n (some (.inl r.1)) r.2.1 r.2.2 O D n := meth_R (Nat.le_refl _) (by decide) rfl (Nat.le_of_ble_eq_true rfl) rfl (fun X Q E => b_X7_count X Q  h E)
theorem mx_X7_count {I : Mem} {P : PMem} {O : Nat → Int64} {D : Bool} {n : Nat} {v1 : Int32} {r : Nat}  (h : f_X7_count I P v1 = some (Sum.inr r)) : MethX yX7_count cX7_count 2 (some .int) 8 [.inr (.inr (7, 0, 0)), .inl v1] I P O D n r I P O D (n + 1) := meth_X (Nat.le_succ _) (by decide) rfl (Nat.le_of_ble_eq_true rfl) rfl (fun X Q E => bx_X7_count X Q  h E)
def f_X7_requireTown_15  (I : Mem) (P : PMem)  : Option ((Unit) ⊕ Nat) :=
  some (Sum.inr 1)
theorem b_X7_requireTown_15 (X : CX) (Q : State → Prop) {I : Mem} {P : PMem} {O : Nat → Int64} {D : Bool} {n : Nat} {r : (Unit)}  (h : f_X7_requireTown_15 I P = some (Sum.inl r)) (E : EndR X cX7_requireTown RX7 2 (none) 8 n none I P O D Q) : Here X cX7_requireTown RX7 2 (none) 8 n 15 [none, none] [] I P O D n Q := by
  unfold f_X7_requireTown_15 at h
  cases h
theorem bx_X7_requireTown_15 (X : CX) (Q : State → Prop) {I : Mem} {P : PMem} {O : Nat → Int64} {D : Bool} {n : Nat} {r : Nat}  (h : f_X7_requireTown_15 I P = some (Sum.inr r)) (E : EndX X cX7_requireTown RX7 2 (none) 8 (n + 1) r I P O D Q) : Here X cX7_requireTown RX7 2 (none) 8 (n + 1) 15 [none, none] [] I P O D n Q := by
  unfold f_X7_requireTown_15 at h
  cases h
  exact h_throwW (text := "no such town") (j := 18) tw_1 (by decide) (by decide) rfl dX7_requireTown_15 dX7_requireTown_18 dX7_requireTown_19 dX7_requireTown_22 dX7_requireTown_25 E
def f_X7_requireTown  (I : Mem) (P : PMem) (v1 : Int32) : Option ((Unit) ⊕ Nat) :=
  if v1 < 0 then (f_X7_requireTown_15 I P ) else (gd (decide ((P 7 0 0 2) < 2)) <|
  if v1 < (I 3 (P 7 0 0 2) 0 0) then (some (Sum.inl ())) else (f_X7_requireTown_15 I P ))
theorem b_X7_requireTown (X : CX) (Q : State → Prop) {I : Mem} {P : PMem} {O : Nat → Int64} {D : Bool} {n : Nat} {v1 : Int32} {r : (Unit)}  (h : f_X7_requireTown I P v1 = some (Sum.inl r)) (E : EndR X cX7_requireTown RX7 2 (none) 8 n none I P O D Q) : Here X cX7_requireTown RX7 2 (none) 8 n 0 [some (.inr (.inr (7, 0, 0))), some (.inl v1)] [] I P O D n Q := by
  unfold f_X7_requireTown at h
  refine h_iload_n dX7_requireTown_0 rfl ?_
  refine h_if_lt (tgt := 15) dX7_requireTown_1 (by decide) (fun q1 => ?_) (fun q1 => ?_)
  · rw [if_pos q1] at h
    exact h_mask [false, false] (b_X7_requireTown_15 X Q  h E)
  · rw [if_neg q1] at h
    refine h_iload_n dX7_requireTown_4 rfl ?_
    refine h_aload_n dX7_requireTown_5 rfl ?_
    refine g_X7_16  dX7_requireTown_6 ?_
    obtain ⟨g1, h⟩ := gd_some h
    have w1 := of_decide_eq_true g1
    refine g_X7_97 (by omega) dX7_requireTown_9 ?_
    refine h_icmp_lt (tgt := 26) dX7_requireTown_12 (by decide) (fun q2 => ?_) (fun q2 => ?_)
    · rw [if_pos q2] at h
      cases h
      exact h_vret dX7_requireTown_26 rfl E
    · rw [if_neg q2] at h
      exact h_mask [false, false] (b_X7_requireTown_15 X Q  h E)
theorem bx_X7_requireTown (X : CX) (Q : State → Prop) {I : Mem} {P : PMem} {O : Nat → Int64} {D : Bool} {n : Nat} {v1 : Int32} {r : Nat}  (h : f_X7_requireTown I P v1 = some (Sum.inr r)) (E : EndX X cX7_requireTown RX7 2 (none) 8 (n + 1) r I P O D Q) : Here X cX7_requireTown RX7 2 (none) 8 (n + 1) 0 [some (.inr (.inr (7, 0, 0))), some (.inl v1)] [] I P O D n Q := by
  unfold f_X7_requireTown at h
  refine h_iload_n dX7_requireTown_0 rfl ?_
  refine h_if_lt (tgt := 15) dX7_requireTown_1 (by decide) (fun q1 => ?_) (fun q1 => ?_)
  · rw [if_pos q1] at h
    exact h_mask [false, false] (bx_X7_requireTown_15 X Q  h E)
  · rw [if_neg q1] at h
    refine h_iload_n dX7_requireTown_4 rfl ?_
    refine h_aload_n dX7_requireTown_5 rfl ?_
    refine g_X7_16  dX7_requireTown_6 ?_
    obtain ⟨g1, h⟩ := gd_some h
    have w1 := of_decide_eq_true g1
    refine g_X7_97 (by omega) dX7_requireTown_9 ?_
    refine h_icmp_lt (tgt := 26) dX7_requireTown_12 (by decide) (fun q2 => ?_) (fun q2 => ?_)
    · rw [if_pos q2] at h
      cases h
    · rw [if_neg q2] at h
      exact h_mask [false, false] (bx_X7_requireTown_15 X Q  h E)
theorem m_X7_requireTown {I : Mem} {P : PMem} {O : Nat → Int64} {D : Bool} {n : Nat} {v1 : Int32} {r : (Unit)}  (h : f_X7_requireTown I P v1 = some (Sum.inl r)) : MethR yX7_requireTown cX7_requireTown 2 (none) 8 [.inr (.inr (7, 0, 0)), .inl v1] I P O D n none I P O D n := meth_R (Nat.le_refl _) (by decide) rfl (Nat.le_of_ble_eq_true rfl) rfl (fun X Q E => b_X7_requireTown X Q  h E)
theorem mx_X7_requireTown {I : Mem} {P : PMem} {O : Nat → Int64} {D : Bool} {n : Nat} {v1 : Int32} {r : Nat}  (h : f_X7_requireTown I P v1 = some (Sum.inr r)) : MethX yX7_requireTown cX7_requireTown 2 (none) 8 [.inr (.inr (7, 0, 0)), .inl v1] I P O D n r I P O D (n + 1) := meth_X (Nat.le_succ _) (by decide) rfl (Nat.le_of_ble_eq_true rfl) rfl (fun X Q E => bx_X7_requireTown X Q  h E)
def f_X7_isOutside  (I : Mem) (v0 : Int32) (v1 : Int32) : Option (Int32) :=
  if v0 < 0 then (some (1 : Int32)) else (if v0 ≤ v1 then (some (0 : Int32)) else (some (1 : Int32)))
theorem b_X7_isOutside (X : CX) (Q : State → Prop) {I : Mem} {P : PMem} {O : Nat → Int64} {D : Bool} {n : Nat} {v0 : Int32} {v1 : Int32} {r : (Int32)}  (h : f_X7_isOutside I v0 v1 = some r) (E : EndR X cX7_isOutside RX7 2 (some .boolean) 2 n (some (.inl r)) I P O D Q) : Here X cX7_isOutside RX7 2 (some .boolean) 2 n 0 [some (.inl v0), some (.inl v1)] [] I P O D n Q := by
  unfold f_X7_isOutside at h
  refine h_iload_n dX7_isOutside_0 rfl ?_
  refine h_if_lt (tgt := 9) dX7_isOutside_1 (by decide) (fun q1 => ?_) (fun q1 => ?_)
  · rw [if_pos q1] at h
    refine h_iconst (1 : Int32) dX7_isOutside_9 k_iconst_1 ?_
    refine h_goto (tgt := 14) dX7_isOutside_10 (by decide) ?_
    cases h
    exact h_zret dX7_isOutside_14 rfl rfl E
  · rw [if_neg q1] at h
    refine h_iload_n dX7_isOutside_4 rfl ?_
    refine h_iload_n dX7_isOutside_5 rfl ?_
    refine h_icmp_le (tgt := 13) dX7_isOutside_6 (by decide) (fun q2 => ?_) (fun q2 => ?_)
    · rw [if_pos q2] at h
      refine h_iconst (0 : Int32) dX7_isOutside_13 k_iconst_0 ?_
      cases h
      exact h_zret dX7_isOutside_14 rfl rfl E
    · rw [if_neg q2] at h
      refine h_iconst (1 : Int32) dX7_isOutside_9 k_iconst_1 ?_
      refine h_goto (tgt := 14) dX7_isOutside_10 (by decide) ?_
      cases h
      exact h_zret dX7_isOutside_14 rfl rfl E
theorem m_X7_isOutside {I : Mem} {P : PMem} {O : Nat → Int64} {D : Bool} {n : Nat} {v0 : Int32} {v1 : Int32} {r : (Int32)}  (h : f_X7_isOutside I v0 v1 = some r) : MethR yX7_isOutside cX7_isOutside 2 (some .boolean) 2 [.inl v0, .inl v1] I P O D n (some (.inl r)) I P O D n := meth_R (Nat.le_refl _) (by decide) rfl (Nat.le_of_ble_eq_true rfl) rfl (fun X Q E => b_X7_isOutside X Q  h E)
def f_X7_requireWhat  (I : Mem) (v0 : Int32) (v1 : Int32) : Option ((Unit) ⊕ Nat) :=
  (f_X7_isOutside I v0 v1).bind fun y1 =>
  if y1 = 0 then (some (Sum.inl ())) else (some (Sum.inr 1))
theorem b_X7_requireWhat (X : CX) (Q : State → Prop) {I : Mem} {P : PMem} {O : Nat → Int64} {D : Bool} {n : Nat} {v0 : Int32} {v1 : Int32} {r : (Unit)}  (h : f_X7_requireWhat I v0 v1 = some (Sum.inl r)) (E : EndR X cX7_requireWhat RX7 2 (none) 8 n none I P O D Q) : Here X cX7_requireWhat RX7 2 (none) 8 n 0 [some (.inl v0), some (.inl v1)] [] I P O D n Q := by
  unfold f_X7_requireWhat at h
  refine h_iload_n dX7_requireWhat_0 rfl ?_
  refine h_iload_n dX7_requireWhat_1 rfl ?_
  obtain ⟨y1, hh1, h⟩ := obd_some h
  refine h_cSi [.inl v0, .inl v1] (m_X7_isOutside  hh1) cs_X7_226 dX7_requireWhat_2 rfl (by decide) rfl (Or.inr rfl) rfl ?_
  refine h_if_eq (tgt := 19) dX7_requireWhat_5 (by decide) (fun q1 => ?_) (fun q1 => ?_)
  · rw [if_pos q1] at h
    cases h
    exact h_vret dX7_requireWhat_19 rfl E
  · rw [if_neg q1] at h
    cases h
theorem bx_X7_requireWhat (X : CX) (Q : State → Prop) {I : Mem} {P : PMem} {O : Nat → Int64} {D : Bool} {n : Nat} {v0 : Int32} {v1 : Int32} {r : Nat}  (h : f_X7_requireWhat I v0 v1 = some (Sum.inr r)) (E : EndX X cX7_requireWhat RX7 2 (none) 8 (n + 1) r I P O D Q) : Here X cX7_requireWhat RX7 2 (none) 8 (n + 1) 0 [some (.inl v0), some (.inl v1)] [] I P O D n Q := by
  unfold f_X7_requireWhat at h
  refine h_iload_n dX7_requireWhat_0 rfl ?_
  refine h_iload_n dX7_requireWhat_1 rfl ?_
  obtain ⟨y1, hh1, h⟩ := obd_some h
  refine h_cSi [.inl v0, .inl v1] (m_X7_isOutside  hh1) cs_X7_226 dX7_requireWhat_2 rfl (by decide) rfl (Or.inr rfl) rfl ?_
  refine h_if_eq (tgt := 19) dX7_requireWhat_5 (by decide) (fun q1 => ?_) (fun q1 => ?_)
  · rw [if_pos q1] at h
    cases h
  · rw [if_neg q1] at h
    cases h
    exact h_throwW (text := "no such what") (j := 19) tw_1 (by decide) (by decide) rfl dX7_requireWhat_8 dX7_requireWhat_11 dX7_requireWhat_12 dX7_requireWhat_15 dX7_requireWhat_18 E
theorem m_X7_requireWhat {I : Mem} {P : PMem} {O : Nat → Int64} {D : Bool} {n : Nat} {v0 : Int32} {v1 : Int32} {r : (Unit)}  (h : f_X7_requireWhat I v0 v1 = some (Sum.inl r)) : MethR yX7_requireWhat cX7_requireWhat 2 (none) 8 [.inl v0, .inl v1] I P O D n none I P O D n := meth_R (Nat.le_refl _) (by decide) rfl (Nat.le_of_ble_eq_true rfl) rfl (fun X Q E => b_X7_requireWhat X Q  h E)
theorem mx_X7_requireWhat {I : Mem} {P : PMem} {O : Nat → Int64} {D : Bool} {n : Nat} {v0 : Int32} {v1 : Int32} {r : Nat}  (h : f_X7_requireWhat I v0 v1 = some (Sum.inr r)) : MethX yX7_requireWhat cX7_requireWhat 2 (none) 8 [.inl v0, .inl v1] I P O D n r I P O D (n + 1) := meth_X (Nat.le_succ _) (by decide) rfl (Nat.le_of_ble_eq_true rfl) rfl (fun X Q E => bx_X7_requireWhat X Q  h E)
