theorem dX5_readRoad_0 : decode cX5_readRoad 0 = .ok (.aload_n 0, 1) := by decide +kernel
theorem dX5_readRoad_1 : decode cX5_readRoad 1 = .ok (.getfield 19, 3) := by decide +kernel
theorem dX5_readRoad_4 : decode cX5_readRoad 4 = .ok (.getfield 109, 3) := by decide +kernel
theorem dX5_readRoad_7 : decode cX5_readRoad 7 = .ok (.bipush 14, 2) := by decide +kernel
theorem dX5_readRoad_9 : decode cX5_readRoad 9 = .ok (.if_icmp .lt 9, 3) := by decide +kernel
theorem dX5_readRoad_12 : decode cX5_readRoad 12 = .ok (.aload_n 0, 1) := by decide +kernel
theorem dX5_readRoad_13 : decode cX5_readRoad 13 = .ok (.iconst 2, 1) := by decide +kernel
theorem dX5_readRoad_14 : decode cX5_readRoad 14 = .ok (.invokevirtual 94, 3) := by decide +kernel
theorem dX5_readRoad_17 : decode cX5_readRoad 17 = .ok (.return_, 1) := by decide +kernel
theorem dX5_readRoad_18 : decode cX5_readRoad 18 = .ok (.aload_n 0, 1) := by decide +kernel
theorem dX5_readRoad_19 : decode cX5_readRoad 19 = .ok (.invokevirtual 43, 3) := by decide +kernel
theorem dX5_readRoad_22 : decode cX5_readRoad 22 = .ok (.aload_n 0, 1) := by decide +kernel
theorem dX5_readRoad_23 : decode cX5_readRoad 23 = .ok (.invokevirtual 112, 3) := by decide +kernel
theorem dX5_readRoad_26 : decode cX5_readRoad 26 = .ok (.istore_n 1, 1) := by decide +kernel
theorem dX5_readRoad_27 : decode cX5_readRoad 27 = .ok (.aload_n 0, 1) := by decide +kernel
theorem dX5_readRoad_28 : decode cX5_readRoad 28 = .ok (.invokevirtual 43, 3) := by decide +kernel
theorem dX5_readRoad_31 : decode cX5_readRoad 31 = .ok (.aload_n 0, 1) := by decide +kernel
theorem dX5_readRoad_32 : decode cX5_readRoad 32 = .ok (.invokevirtual 112, 3) := by decide +kernel
theorem dX5_readRoad_35 : decode cX5_readRoad 35 = .ok (.istore_n 2, 1) := by decide +kernel
theorem dX5_readRoad_36 : decode cX5_readRoad 36 = .ok (.aload_n 0, 1) := by decide +kernel
theorem dX5_readRoad_37 : decode cX5_readRoad 37 = .ok (.getfield 37, 3) := by decide +kernel
theorem dX5_readRoad_40 : decode cX5_readRoad 40 = .ok (.ifCond .ne 25, 3) := by decide +kernel
theorem dX5_readRoad_43 : decode cX5_readRoad 43 = .ok (.iload_n 1, 1) := by decide +kernel
theorem dX5_readRoad_44 : decode cX5_readRoad 44 = .ok (.iload_n 2, 1) := by decide +kernel
theorem dX5_readRoad_45 : decode cX5_readRoad 45 = .ok (.if_icmp .eq 15, 3) := by decide +kernel
theorem dX5_readRoad_48 : decode cX5_readRoad 48 = .ok (.aload_n 0, 1) := by decide +kernel
theorem dX5_readRoad_49 : decode cX5_readRoad 49 = .ok (.getfield 19, 3) := by decide +kernel
theorem dX5_readRoad_52 : decode cX5_readRoad 52 = .ok (.iload_n 1, 1) := by decide +kernel
theorem dX5_readRoad_53 : decode cX5_readRoad 53 = .ok (.iload_n 2, 1) := by decide +kernel
theorem dX5_readRoad_54 : decode cX5_readRoad 54 = .ok (.invokevirtual 116, 3) := by decide +kernel
theorem dX5_readRoad_57 : decode cX5_readRoad 57 = .ok (.ifCond .eq 8, 3) := by decide +kernel
theorem dX5_readRoad_60 : decode cX5_readRoad 60 = .ok (.aload_n 0, 1) := by decide +kernel
theorem dX5_readRoad_61 : decode cX5_readRoad 61 = .ok (.iconst 4, 1) := by decide +kernel
theorem dX5_readRoad_62 : decode cX5_readRoad 62 = .ok (.invokevirtual 94, 3) := by decide +kernel
theorem dX5_readRoad_65 : decode cX5_readRoad 65 = .ok (.aload_n 0, 1) := by decide +kernel
theorem dX5_readRoad_66 : decode cX5_readRoad 66 = .ok (.invokevirtual 43, 3) := by decide +kernel
theorem dX5_readRoad_69 : decode cX5_readRoad 69 = .ok (.aload_n 0, 1) := by decide +kernel
theorem dX5_readRoad_70 : decode cX5_readRoad 70 = .ok (.iconst 1, 1) := by decide +kernel
theorem dX5_readRoad_71 : decode cX5_readRoad 71 = .ok (.bipush 9, 2) := by decide +kernel
theorem dX5_readRoad_73 : decode cX5_readRoad 73 = .ok (.invokevirtual 120, 3) := by decide +kernel
theorem dX5_readRoad_76 : decode cX5_readRoad 76 = .ok (.istore_n 3, 1) := by decide +kernel
theorem dX5_readRoad_77 : decode cX5_readRoad 77 = .ok (.aload_n 0, 1) := by decide +kernel
theorem dX5_readRoad_78 : decode cX5_readRoad 78 = .ok (.getfield 37, 3) := by decide +kernel
theorem dX5_readRoad_81 : decode cX5_readRoad 81 = .ok (.ifCond .ne 40, 3) := by decide +kernel
theorem dX5_readRoad_84 : decode cX5_readRoad 84 = .ok (.aload_n 0, 1) := by decide +kernel
theorem dX5_readRoad_85 : decode cX5_readRoad 85 = .ok (.getfield 19, 3) := by decide +kernel
theorem dX5_readRoad_88 : decode cX5_readRoad 88 = .ok (.getfield 123, 3) := by decide +kernel
theorem dX5_readRoad_91 : decode cX5_readRoad 91 = .ok (.iload_n 1, 1) := by decide +kernel
theorem dX5_readRoad_92 : decode cX5_readRoad 92 = .ok (.aaload, 1) := by decide +kernel
theorem dX5_readRoad_93 : decode cX5_readRoad 93 = .ok (.iload_n 2, 1) := by decide +kernel
theorem dX5_readRoad_94 : decode cX5_readRoad 94 = .ok (.iload_n 3, 1) := by decide +kernel
theorem dX5_readRoad_95 : decode cX5_readRoad 95 = .ok (.iastore, 1) := by decide +kernel
theorem dX5_readRoad_96 : decode cX5_readRoad 96 = .ok (.aload_n 0, 1) := by decide +kernel
theorem dX5_readRoad_97 : decode cX5_readRoad 97 = .ok (.getfield 19, 3) := by decide +kernel
theorem dX5_readRoad_100 : decode cX5_readRoad 100 = .ok (.getfield 123, 3) := by decide +kernel
theorem dX5_readRoad_103 : decode cX5_readRoad 103 = .ok (.iload_n 2, 1) := by decide +kernel
theorem dX5_readRoad_104 : decode cX5_readRoad 104 = .ok (.aaload, 1) := by decide +kernel
theorem dX5_readRoad_105 : decode cX5_readRoad 105 = .ok (.iload_n 1, 1) := by decide +kernel
theorem dX5_readRoad_106 : decode cX5_readRoad 106 = .ok (.iload_n 3, 1) := by decide +kernel
theorem dX5_readRoad_107 : decode cX5_readRoad 107 = .ok (.iastore, 1) := by decide +kernel
theorem dX5_readRoad_108 : decode cX5_readRoad 108 = .ok (.aload_n 0, 1) := by decide +kernel
theorem dX5_readRoad_109 : decode cX5_readRoad 109 = .ok (.getfield 19, 3) := by decide +kernel
theorem dX5_readRoad_112 : decode cX5_readRoad 112 = .ok (.dup, 1) := by decide +kernel
theorem dX5_readRoad_113 : decode cX5_readRoad 113 = .ok (.getfield 109, 3) := by decide +kernel
theorem dX5_readRoad_116 : decode cX5_readRoad 116 = .ok (.iconst 1, 1) := by decide +kernel
theorem dX5_readRoad_117 : decode cX5_readRoad 117 = .ok (.iadd, 1) := by decide +kernel
theorem dX5_readRoad_118 : decode cX5_readRoad 118 = .ok (.putfield 109, 3) := by decide +kernel
theorem dX5_readRoad_121 : decode cX5_readRoad 121 = .ok (.return_, 1) := by decide +kernel
theorem dX5_readGossip_0 : decode cX5_readGossip 0 = .ok (.aload_n 0, 1) := by decide +kernel
theorem dX5_readGossip_1 : decode cX5_readGossip 1 = .ok (.getfield 19, 3) := by decide +kernel
theorem dX5_readGossip_4 : decode cX5_readGossip 4 = .ok (.getfield 126, 3) := by decide +kernel
theorem dX5_readGossip_7 : decode cX5_readGossip 7 = .ok (.ifCond .eq 9, 3) := by decide +kernel
theorem dX5_readGossip_10 : decode cX5_readGossip 10 = .ok (.aload_n 0, 1) := by decide +kernel
theorem dX5_readGossip_11 : decode cX5_readGossip 11 = .ok (.iconst 5, 1) := by decide +kernel
theorem dX5_readGossip_12 : decode cX5_readGossip 12 = .ok (.invokevirtual 94, 3) := by decide +kernel
theorem dX5_readGossip_15 : decode cX5_readGossip 15 = .ok (.return_, 1) := by decide +kernel
theorem dX5_readGossip_16 : decode cX5_readGossip 16 = .ok (.aload_n 0, 1) := by decide +kernel
theorem dX5_readGossip_17 : decode cX5_readGossip 17 = .ok (.invokevirtual 43, 3) := by decide +kernel
theorem dX5_readGossip_20 : decode cX5_readGossip 20 = .ok (.aload_n 0, 1) := by decide +kernel
theorem dX5_readGossip_21 : decode cX5_readGossip 21 = .ok (.getfield 19, 3) := by decide +kernel
theorem dX5_readGossip_24 : decode cX5_readGossip 24 = .ok (.aload_n 0, 1) := by decide +kernel
theorem dX5_readGossip_25 : decode cX5_readGossip 25 = .ok (.iconst 1, 1) := by decide +kernel
theorem dX5_readGossip_26 : decode cX5_readGossip 26 = .ok (.bipush 40, 2) := by decide +kernel
theorem dX5_readGossip_28 : decode cX5_readGossip 28 = .ok (.invokevirtual 120, 3) := by decide +kernel
theorem dX5_readGossip_31 : decode cX5_readGossip 31 = .ok (.putfield 126, 3) := by decide +kernel
theorem dX5_readGossip_34 : decode cX5_readGossip 34 = .ok (.return_, 1) := by decide +kernel
theorem dX5_readStop_0 : decode cX5_readStop 0 = .ok (.iload_n 2, 1) := by decide +kernel
theorem dX5_readStop_1 : decode cX5_readStop 1 = .ok (.bipush 7, 2) := by decide +kernel
theorem dX5_readStop_3 : decode cX5_readStop 3 = .ok (.if_icmp .lt 10, 3) := by decide +kernel
theorem dX5_readStop_6 : decode cX5_readStop 6 = .ok (.aload_n 0, 1) := by decide +kernel
theorem dX5_readStop_7 : decode cX5_readStop 7 = .ok (.iconst 2, 1) := by decide +kernel
theorem dX5_readStop_8 : decode cX5_readStop 8 = .ok (.invokevirtual 94, 3) := by decide +kernel
theorem dX5_readStop_11 : decode cX5_readStop 11 = .ok (.iconst (-1), 1) := by decide +kernel
theorem dX5_readStop_12 : decode cX5_readStop 12 = .ok (.ireturn, 1) := by decide +kernel
theorem dX5_readStop_13 : decode cX5_readStop 13 = .ok (.aload_n 0, 1) := by decide +kernel
theorem dX5_readStop_14 : decode cX5_readStop 14 = .ok (.invokevirtual 112, 3) := by decide +kernel
theorem dX5_readStop_17 : decode cX5_readStop 17 = .ok (.istore 4, 2) := by decide +kernel
theorem dX5_readStop_19 : decode cX5_readStop 19 = .ok (.aload_n 0, 1) := by decide +kernel
theorem dX5_readStop_20 : decode cX5_readStop 20 = .ok (.getfield 37, 3) := by decide +kernel
theorem dX5_readStop_23 : decode cX5_readStop 23 = .ok (.ifCond .ne 27, 3) := by decide +kernel
theorem dX5_readStop_26 : decode cX5_readStop 26 = .ok (.iload_n 3, 1) := by decide +kernel
theorem dX5_readStop_27 : decode cX5_readStop 27 = .ok (.iconst (-1), 1) := by decide +kernel
theorem dX5_readStop_28 : decode cX5_readStop 28 = .ok (.if_icmp .eq 22, 3) := by decide +kernel
theorem dX5_readStop_31 : decode cX5_readStop 31 = .ok (.aload_n 0, 1) := by decide +kernel
theorem dX5_readStop_32 : decode cX5_readStop 32 = .ok (.getfield 19, 3) := by decide +kernel
theorem dX5_readStop_35 : decode cX5_readStop 35 = .ok (.iload_n 3, 1) := by decide +kernel
theorem dX5_readStop_36 : decode cX5_readStop 36 = .ok (.iload 4, 2) := by decide +kernel
theorem dX5_readStop_38 : decode cX5_readStop 38 = .ok (.invokevirtual 116, 3) := by decide +kernel
theorem dX5_readStop_41 : decode cX5_readStop 41 = .ok (.ifCond .ne 9, 3) := by decide +kernel
theorem dX5_readStop_44 : decode cX5_readStop 44 = .ok (.aload_n 0, 1) := by decide +kernel
theorem dX5_readStop_45 : decode cX5_readStop 45 = .ok (.bipush 6, 2) := by decide +kernel
theorem dX5_readStop_47 : decode cX5_readStop 47 = .ok (.invokevirtual 94, 3) := by decide +kernel
theorem dX5_readStop_50 : decode cX5_readStop 50 = .ok (.aload_n 0, 1) := by decide +kernel
theorem dX5_readStop_51 : decode cX5_readStop 51 = .ok (.getfield 19, 3) := by decide +kernel
theorem dX5_readStop_54 : decode cX5_readStop 54 = .ok (.getfield 144, 3) := by decide +kernel
theorem dX5_readStop_57 : decode cX5_readStop 57 = .ok (.iload_n 1, 1) := by decide +kernel
theorem dX5_readStop_58 : decode cX5_readStop 58 = .ok (.aaload, 1) := by decide +kernel
theorem dX5_readStop_59 : decode cX5_readStop 59 = .ok (.iload_n 2, 1) := by decide +kernel
theorem dX5_readStop_60 : decode cX5_readStop 60 = .ok (.iload 4, 2) := by decide +kernel
theorem dX5_readStop_62 : decode cX5_readStop 62 = .ok (.iastore, 1) := by decide +kernel
theorem dX5_readStop_63 : decode cX5_readStop 63 = .ok (.aload_n 0, 1) := by decide +kernel
theorem dX5_readStop_64 : decode cX5_readStop 64 = .ok (.getfield 19, 3) := by decide +kernel
theorem dX5_readStop_67 : decode cX5_readStop 67 = .ok (.getfield 147, 3) := by decide +kernel
theorem dX5_readStop_70 : decode cX5_readStop 70 = .ok (.iload_n 1, 1) := by decide +kernel
theorem dX5_readStop_71 : decode cX5_readStop 71 = .ok (.iload_n 2, 1) := by decide +kernel
theorem dX5_readStop_72 : decode cX5_readStop 72 = .ok (.iconst 1, 1) := by decide +kernel
theorem dX5_readStop_73 : decode cX5_readStop 73 = .ok (.iadd, 1) := by decide +kernel
theorem dX5_readStop_74 : decode cX5_readStop 74 = .ok (.iastore, 1) := by decide +kernel
theorem dX5_readStop_75 : decode cX5_readStop 75 = .ok (.aload_n 0, 1) := by decide +kernel
theorem dX5_readStop_76 : decode cX5_readStop 76 = .ok (.invokevirtual 43, 3) := by decide +kernel
theorem dX5_readStop_79 : decode cX5_readStop 79 = .ok (.iload 4, 2) := by decide +kernel
theorem dX5_readStop_81 : decode cX5_readStop 81 = .ok (.ireturn, 1) := by decide +kernel
theorem dX5_readJudge_0 : decode cX5_readJudge 0 = .ok (.aload_n 0, 1) := by decide +kernel
theorem dX5_readJudge_1 : decode cX5_readJudge 1 = .ok (.getfield 19, 3) := by decide +kernel
theorem dX5_readJudge_4 : decode cX5_readJudge 4 = .ok (.getfield 128, 3) := by decide +kernel
theorem dX5_readJudge_7 : decode cX5_readJudge 7 = .ok (.istore_n 2, 1) := by decide +kernel
theorem dX5_readJudge_8 : decode cX5_readJudge 8 = .ok (.iload_n 2, 1) := by decide +kernel
theorem dX5_readJudge_9 : decode cX5_readJudge 9 = .ok (.iconst 5, 1) := by decide +kernel
theorem dX5_readJudge_10 : decode cX5_readJudge 10 = .ok (.if_icmp .lt 9, 3) := by decide +kernel
theorem dX5_readJudge_13 : decode cX5_readJudge 13 = .ok (.aload_n 0, 1) := by decide +kernel
theorem dX5_readJudge_14 : decode cX5_readJudge 14 = .ok (.iconst 2, 1) := by decide +kernel
theorem dX5_readJudge_15 : decode cX5_readJudge 15 = .ok (.invokevirtual 94, 3) := by decide +kernel
theorem dX5_readJudge_18 : decode cX5_readJudge 18 = .ok (.return_, 1) := by decide +kernel
theorem dX5_readJudge_19 : decode cX5_readJudge 19 = .ok (.aload_n 0, 1) := by decide +kernel
theorem dX5_readJudge_20 : decode cX5_readJudge 20 = .ok (.invokevirtual 43, 3) := by decide +kernel
theorem dX5_readJudge_23 : decode cX5_readJudge 23 = .ok (.aload_n 0, 1) := by decide +kernel
theorem dX5_readJudge_24 : decode cX5_readJudge 24 = .ok (.getfield 19, 3) := by decide +kernel
theorem dX5_readJudge_27 : decode cX5_readJudge 27 = .ok (.getfield 131, 3) := by decide +kernel
theorem dX5_readJudge_30 : decode cX5_readJudge 30 = .ok (.iload_n 2, 1) := by decide +kernel
theorem dX5_readJudge_31 : decode cX5_readJudge 31 = .ok (.iload_n 1, 1) := by decide +kernel
theorem dX5_readJudge_32 : decode cX5_readJudge 32 = .ok (.iastore, 1) := by decide +kernel
theorem dX5_readJudge_33 : decode cX5_readJudge 33 = .ok (.aload_n 0, 1) := by decide +kernel
theorem dX5_readJudge_34 : decode cX5_readJudge 34 = .ok (.getfield 19, 3) := by decide +kernel
theorem dX5_readJudge_37 : decode cX5_readJudge 37 = .ok (.getfield 134, 3) := by decide +kernel
theorem dX5_readJudge_40 : decode cX5_readJudge 40 = .ok (.iload_n 2, 1) := by decide +kernel
theorem dX5_readJudge_41 : decode cX5_readJudge 41 = .ok (.aload_n 0, 1) := by decide +kernel
theorem dX5_readJudge_42 : decode cX5_readJudge 42 = .ok (.iconst 0, 1) := by decide +kernel
theorem dX5_readJudge_43 : decode cX5_readJudge 43 = .ok (.bipush 60, 2) := by decide +kernel
theorem dX5_readJudge_45 : decode cX5_readJudge 45 = .ok (.invokevirtual 120, 3) := by decide +kernel
theorem dX5_readJudge_48 : decode cX5_readJudge 48 = .ok (.iastore, 1) := by decide +kernel
theorem dX5_readJudge_49 : decode cX5_readJudge 49 = .ok (.aload_n 0, 1) := by decide +kernel
theorem dX5_readJudge_50 : decode cX5_readJudge 50 = .ok (.getfield 19, 3) := by decide +kernel
theorem dX5_readJudge_53 : decode cX5_readJudge 53 = .ok (.getfield 137, 3) := by decide +kernel
theorem dX5_readJudge_56 : decode cX5_readJudge 56 = .ok (.iload_n 2, 1) := by decide +kernel
theorem dX5_readJudge_57 : decode cX5_readJudge 57 = .ok (.aload_n 0, 1) := by decide +kernel
theorem dX5_readJudge_58 : decode cX5_readJudge 58 = .ok (.iconst 0, 1) := by decide +kernel
theorem dX5_readJudge_59 : decode cX5_readJudge 59 = .ok (.bipush 9, 2) := by decide +kernel
theorem dX5_readJudge_61 : decode cX5_readJudge 61 = .ok (.invokevirtual 120, 3) := by decide +kernel
theorem dX5_readJudge_64 : decode cX5_readJudge 64 = .ok (.iastore, 1) := by decide +kernel
theorem dX5_readJudge_65 : decode cX5_readJudge 65 = .ok (.iconst (-1), 1) := by decide +kernel
theorem dX5_readJudge_66 : decode cX5_readJudge 66 = .ok (.istore_n 3, 1) := by decide +kernel
theorem dX5_readJudge_67 : decode cX5_readJudge 67 = .ok (.iconst 0, 1) := by decide +kernel
theorem dX5_readJudge_68 : decode cX5_readJudge 68 = .ok (.istore 4, 2) := by decide +kernel
theorem dX5_readJudge_70 : decode cX5_readJudge 70 = .ok (.iload 4, 2) := by decide +kernel
theorem dX5_readJudge_72 : decode cX5_readJudge 72 = .ok (.bipush 7, 2) := by decide +kernel
theorem dX5_readJudge_74 : decode cX5_readJudge 74 = .ok (.if_icmp .gt 31, 3) := by decide +kernel
theorem dX5_readJudge_77 : decode cX5_readJudge 77 = .ok (.iload 4, 2) := by decide +kernel
theorem dX5_readJudge_79 : decode cX5_readJudge 79 = .ok (.ifCond .eq 11, 3) := by decide +kernel
theorem dX5_readJudge_82 : decode cX5_readJudge 82 = .ok (.aload_n 0, 1) := by decide +kernel
theorem dX5_readJudge_83 : decode cX5_readJudge 83 = .ok (.getfield 46, 3) := by decide +kernel
theorem dX5_readJudge_86 : decode cX5_readJudge 86 = .ok (.iconst 2, 1) := by decide +kernel
theorem dX5_readJudge_87 : decode cX5_readJudge 87 = .ok (.if_icmp .ne 18, 3) := by decide +kernel
theorem dX5_readJudge_90 : decode cX5_readJudge 90 = .ok (.aload_n 0, 1) := by decide +kernel
theorem dX5_readJudge_91 : decode cX5_readJudge 91 = .ok (.iload_n 2, 1) := by decide +kernel
theorem dX5_readJudge_92 : decode cX5_readJudge 92 = .ok (.iload 4, 2) := by decide +kernel
theorem dX5_readJudge_94 : decode cX5_readJudge 94 = .ok (.iload_n 3, 1) := by decide +kernel
theorem dX5_readJudge_95 : decode cX5_readJudge 95 = .ok (.invokevirtual 140, 3) := by decide +kernel
theorem dX5_readJudge_98 : decode cX5_readJudge 98 = .ok (.istore_n 3, 1) := by decide +kernel
theorem dX5_readJudge_99 : decode cX5_readJudge 99 = .ok (.iinc 4 1, 3) := by decide +kernel
theorem dX5_readJudge_102 : decode cX5_readJudge 102 = .ok (.goto (-32), 3) := by decide +kernel
theorem dX5_readJudge_105 : decode cX5_readJudge 105 = .ok (.aload_n 0, 1) := by decide +kernel
theorem dX5_readJudge_106 : decode cX5_readJudge 106 = .ok (.getfield 19, 3) := by decide +kernel
theorem dX5_readJudge_109 : decode cX5_readJudge 109 = .ok (.dup, 1) := by decide +kernel
theorem dX5_readJudge_110 : decode cX5_readJudge 110 = .ok (.getfield 128, 3) := by decide +kernel
theorem dX5_readJudge_113 : decode cX5_readJudge 113 = .ok (.iconst 1, 1) := by decide +kernel
theorem dX5_readJudge_114 : decode cX5_readJudge 114 = .ok (.iadd, 1) := by decide +kernel
theorem dX5_readJudge_115 : decode cX5_readJudge 115 = .ok (.putfield 128, 3) := by decide +kernel
theorem dX5_readJudge_118 : decode cX5_readJudge 118 = .ok (.return_, 1) := by decide +kernel
theorem dX5_readProof_0 : decode cX5_readProof 0 = .ok (.iload_n 2, 1) := by decide +kernel
theorem dX5_readProof_1 : decode cX5_readProof 1 = .ok (.bipush 6, 2) := by decide +kernel
theorem dX5_readProof_3 : decode cX5_readProof 3 = .ok (.if_icmp .lt 9, 3) := by decide +kernel
theorem dX5_readProof_6 : decode cX5_readProof 6 = .ok (.aload_n 0, 1) := by decide +kernel
theorem dX5_readProof_7 : decode cX5_readProof 7 = .ok (.iconst 2, 1) := by decide +kernel
theorem dX5_readProof_8 : decode cX5_readProof 8 = .ok (.invokevirtual 94, 3) := by decide +kernel
theorem dX5_readProof_11 : decode cX5_readProof 11 = .ok (.return_, 1) := by decide +kernel
theorem dX5_readProof_12 : decode cX5_readProof 12 = .ok (.aload_n 0, 1) := by decide +kernel
theorem dX5_readProof_13 : decode cX5_readProof 13 = .ok (.invokevirtual 112, 3) := by decide +kernel
theorem dX5_readProof_16 : decode cX5_readProof 16 = .ok (.istore_n 3, 1) := by decide +kernel
theorem dX5_readProof_17 : decode cX5_readProof 17 = .ok (.aload_n 0, 1) := by decide +kernel
theorem dX5_readProof_18 : decode cX5_readProof 18 = .ok (.getfield 37, 3) := by decide +kernel
theorem dX5_readProof_21 : decode cX5_readProof 21 = .ok (.ifCond .ne 23, 3) := by decide +kernel
theorem dX5_readProof_24 : decode cX5_readProof 24 = .ok (.aload_n 0, 1) := by decide +kernel
theorem dX5_readProof_25 : decode cX5_readProof 25 = .ok (.getfield 19, 3) := by decide +kernel
theorem dX5_readProof_28 : decode cX5_readProof 28 = .ok (.getfield 157, 3) := by decide +kernel
theorem dX5_readProof_31 : decode cX5_readProof 31 = .ok (.iload_n 1, 1) := by decide +kernel
theorem dX5_readProof_32 : decode cX5_readProof 32 = .ok (.aaload, 1) := by decide +kernel
theorem dX5_readProof_33 : decode cX5_readProof 33 = .ok (.iload_n 3, 1) := by decide +kernel
theorem dX5_readProof_34 : decode cX5_readProof 34 = .ok (.iaload, 1) := by decide +kernel
theorem dX5_readProof_35 : decode cX5_readProof 35 = .ok (.iconst (-1), 1) := by decide +kernel
theorem dX5_readProof_36 : decode cX5_readProof 36 = .ok (.if_icmp .eq 8, 3) := by decide +kernel
theorem dX5_readProof_39 : decode cX5_readProof 39 = .ok (.aload_n 0, 1) := by decide +kernel
theorem dX5_readProof_40 : decode cX5_readProof 40 = .ok (.iconst 4, 1) := by decide +kernel
theorem dX5_readProof_41 : decode cX5_readProof 41 = .ok (.invokevirtual 94, 3) := by decide +kernel
theorem dX5_readProof_44 : decode cX5_readProof 44 = .ok (.aload_n 0, 1) := by decide +kernel
theorem dX5_readProof_45 : decode cX5_readProof 45 = .ok (.invokevirtual 43, 3) := by decide +kernel
theorem dX5_readProof_48 : decode cX5_readProof 48 = .ok (.aload_n 0, 1) := by decide +kernel
theorem dX5_readProof_49 : decode cX5_readProof 49 = .ok (.iconst 0, 1) := by decide +kernel
theorem dX5_readProof_50 : decode cX5_readProof 50 = .ok (.bipush 9, 2) := by decide +kernel
theorem dX5_readProof_52 : decode cX5_readProof 52 = .ok (.invokevirtual 120, 3) := by decide +kernel
theorem dX5_readProof_55 : decode cX5_readProof 55 = .ok (.istore 4, 2) := by decide +kernel
theorem dX5_readProof_57 : decode cX5_readProof 57 = .ok (.aload_n 0, 1) := by decide +kernel
theorem dX5_readProof_58 : decode cX5_readProof 58 = .ok (.getfield 37, 3) := by decide +kernel
theorem dX5_readProof_61 : decode cX5_readProof 61 = .ok (.ifCond .ne 16, 3) := by decide +kernel
theorem dX5_readProof_64 : decode cX5_readProof 64 = .ok (.aload_n 0, 1) := by decide +kernel
theorem dX5_readProof_65 : decode cX5_readProof 65 = .ok (.getfield 19, 3) := by decide +kernel
theorem dX5_readProof_68 : decode cX5_readProof 68 = .ok (.getfield 157, 3) := by decide +kernel
theorem dX5_readProof_71 : decode cX5_readProof 71 = .ok (.iload_n 1, 1) := by decide +kernel
theorem dX5_readProof_72 : decode cX5_readProof 72 = .ok (.aaload, 1) := by decide +kernel
theorem dX5_readProof_73 : decode cX5_readProof 73 = .ok (.iload_n 3, 1) := by decide +kernel
theorem dX5_readProof_74 : decode cX5_readProof 74 = .ok (.iload 4, 2) := by decide +kernel
theorem dX5_readProof_76 : decode cX5_readProof 76 = .ok (.iastore, 1) := by decide +kernel
theorem dX5_readProof_77 : decode cX5_readProof 77 = .ok (.return_, 1) := by decide +kernel
theorem dX5_readCase_0 : decode cX5_readCase 0 = .ok (.aload_n 0, 1) := by decide +kernel
theorem dX5_readCase_1 : decode cX5_readCase 1 = .ok (.getfield 19, 3) := by decide +kernel
theorem dX5_readCase_4 : decode cX5_readCase 4 = .ok (.getfield 150, 3) := by decide +kernel
theorem dX5_readCase_7 : decode cX5_readCase 7 = .ok (.istore_n 1, 1) := by decide +kernel
theorem dX5_readCase_8 : decode cX5_readCase 8 = .ok (.iload_n 1, 1) := by decide +kernel
theorem dX5_readCase_9 : decode cX5_readCase 9 = .ok (.bipush 6, 2) := by decide +kernel
theorem dX5_readCase_11 : decode cX5_readCase 11 = .ok (.if_icmp .lt 9, 3) := by decide +kernel
theorem dX5_readCase_14 : decode cX5_readCase 14 = .ok (.aload_n 0, 1) := by decide +kernel
theorem dX5_readCase_15 : decode cX5_readCase 15 = .ok (.iconst 2, 1) := by decide +kernel
theorem dX5_readCase_16 : decode cX5_readCase 16 = .ok (.invokevirtual 94, 3) := by decide +kernel
theorem dX5_readCase_19 : decode cX5_readCase 19 = .ok (.return_, 1) := by decide +kernel
theorem dX5_readCase_20 : decode cX5_readCase 20 = .ok (.aload_n 0, 1) := by decide +kernel
theorem dX5_readCase_21 : decode cX5_readCase 21 = .ok (.invokevirtual 43, 3) := by decide +kernel
theorem dX5_readCase_24 : decode cX5_readCase 24 = .ok (.iconst 0, 1) := by decide +kernel
theorem dX5_readCase_25 : decode cX5_readCase 25 = .ok (.istore_n 2, 1) := by decide +kernel
theorem dX5_readCase_26 : decode cX5_readCase 26 = .ok (.iload_n 2, 1) := by decide +kernel
theorem dX5_readCase_27 : decode cX5_readCase 27 = .ok (.bipush 6, 2) := by decide +kernel
theorem dX5_readCase_29 : decode cX5_readCase 29 = .ok (.if_icmp .gt 27, 3) := by decide +kernel
theorem dX5_readCase_32 : decode cX5_readCase 32 = .ok (.iload_n 2, 1) := by decide +kernel
theorem dX5_readCase_33 : decode cX5_readCase 33 = .ok (.ifCond .eq 11, 3) := by decide +kernel
theorem dX5_readCase_36 : decode cX5_readCase 36 = .ok (.aload_n 0, 1) := by decide +kernel
theorem dX5_readCase_37 : decode cX5_readCase 37 = .ok (.getfield 46, 3) := by decide +kernel
theorem dX5_readCase_40 : decode cX5_readCase 40 = .ok (.iconst 2, 1) := by decide +kernel
theorem dX5_readCase_41 : decode cX5_readCase 41 = .ok (.if_icmp .ne 15, 3) := by decide +kernel
theorem dX5_readCase_44 : decode cX5_readCase 44 = .ok (.aload_n 0, 1) := by decide +kernel
theorem dX5_readCase_45 : decode cX5_readCase 45 = .ok (.iload_n 1, 1) := by decide +kernel
theorem dX5_readCase_46 : decode cX5_readCase 46 = .ok (.iload_n 2, 1) := by decide +kernel
theorem dX5_readCase_47 : decode cX5_readCase 47 = .ok (.invokevirtual 153, 3) := by decide +kernel
theorem dX5_readCase_50 : decode cX5_readCase 50 = .ok (.iinc 2 1, 3) := by decide +kernel
theorem dX5_readCase_53 : decode cX5_readCase 53 = .ok (.goto (-27), 3) := by decide +kernel
theorem dX5_readCase_56 : decode cX5_readCase 56 = .ok (.aload_n 0, 1) := by decide +kernel
theorem dX5_readCase_57 : decode cX5_readCase 57 = .ok (.getfield 19, 3) := by decide +kernel
theorem dX5_readCase_60 : decode cX5_readCase 60 = .ok (.dup, 1) := by decide +kernel
theorem dX5_readCase_61 : decode cX5_readCase 61 = .ok (.getfield 150, 3) := by decide +kernel
theorem dX5_readCase_64 : decode cX5_readCase 64 = .ok (.iconst 1, 1) := by decide +kernel
theorem dX5_readCase_65 : decode cX5_readCase 65 = .ok (.iadd, 1) := by decide +kernel
theorem dX5_readCase_66 : decode cX5_readCase 66 = .ok (.putfield 150, 3) := by decide +kernel
theorem dX5_readCase_69 : decode cX5_readCase 69 = .ok (.return_, 1) := by decide +kernel
theorem dX5_isSign_0 : decode cX5_isSign 0 = .ok (.aload_n 0, 1) := by decide +kernel
theorem dX5_isSign_1 : decode cX5_isSign 1 = .ok (.getfield 46, 3) := by decide +kernel
theorem dX5_isSign_4 : decode cX5_isSign 4 = .ok (.iconst 3, 1) := by decide +kernel
theorem dX5_isSign_5 : decode cX5_isSign 5 = .ok (.if_icmp .ne 20, 3) := by decide +kernel
theorem dX5_isSign_8 : decode cX5_isSign 8 = .ok (.aload_n 0, 1) := by decide +kernel
theorem dX5_isSign_9 : decode cX5_isSign 9 = .ok (.getfield 15, 3) := by decide +kernel
theorem dX5_isSign_12 : decode cX5_isSign 12 = .ok (.aload_n 0, 1) := by decide +kernel
theorem dX5_isSign_13 : decode cX5_isSign 13 = .ok (.getfield 216, 3) := by decide +kernel
theorem dX5_isSign_16 : decode cX5_isSign 16 = .ok (.baload, 1) := by decide +kernel
theorem dX5_isSign_17 : decode cX5_isSign 17 = .ok (.iload_n 1, 1) := by decide +kernel
theorem dX5_isSign_18 : decode cX5_isSign 18 = .ok (.if_icmp .ne 7, 3) := by decide +kernel
theorem dX5_isSign_21 : decode cX5_isSign 21 = .ok (.iconst 1, 1) := by decide +kernel
theorem dX5_isSign_22 : decode cX5_isSign 22 = .ok (.goto 4, 3) := by decide +kernel
theorem dX5_isSign_25 : decode cX5_isSign 25 = .ok (.iconst 0, 1) := by decide +kernel
theorem dX5_isSign_26 : decode cX5_isSign 26 = .ok (.ireturn, 1) := by decide +kernel
theorem dX5_readValue_0 : decode cX5_readValue 0 = .ok (.aload_n 0, 1) := by decide +kernel
theorem dX5_readValue_1 : decode cX5_readValue 1 = .ok (.ldc 206, 2) := by decide +kernel
theorem dX5_readValue_3 : decode cX5_readValue 3 = .ok (.invokevirtual 57, 3) := by decide +kernel
theorem dX5_readValue_6 : decode cX5_readValue 6 = .ok (.ifCond .eq 19, 3) := by decide +kernel
theorem dX5_readValue_9 : decode cX5_readValue 9 = .ok (.aload_n 0, 1) := by decide +kernel
theorem dX5_readValue_10 : decode cX5_readValue 10 = .ok (.getfield 19, 3) := by decide +kernel
theorem dX5_readValue_13 : decode cX5_readValue 13 = .ok (.getfield 160, 3) := by decide +kernel
theorem dX5_readValue_16 : decode cX5_readValue 16 = .ok (.sipush 10000, 3) := by decide +kernel
theorem dX5_readValue_19 : decode cX5_readValue 19 = .ok (.invokevirtual 181, 3) := by decide +kernel
theorem dX5_readValue_22 : decode cX5_readValue 22 = .ok (.goto 108, 3) := by decide +kernel
theorem dX5_readValue_25 : decode cX5_readValue 25 = .ok (.aload_n 0, 1) := by decide +kernel
theorem dX5_readValue_26 : decode cX5_readValue 26 = .ok (.ldc 208, 2) := by decide +kernel
theorem dX5_readValue_28 : decode cX5_readValue 28 = .ok (.invokevirtual 57, 3) := by decide +kernel
theorem dX5_readValue_31 : decode cX5_readValue 31 = .ok (.ifCond .eq 19, 3) := by decide +kernel
theorem dX5_readValue_34 : decode cX5_readValue 34 = .ok (.aload_n 0, 1) := by decide +kernel
theorem dX5_readValue_35 : decode cX5_readValue 35 = .ok (.getfield 19, 3) := by decide +kernel
theorem dX5_readValue_38 : decode cX5_readValue 38 = .ok (.getfield 160, 3) := by decide +kernel
theorem dX5_readValue_41 : decode cX5_readValue 41 = .ok (.sipush 10001, 3) := by decide +kernel
theorem dX5_readValue_44 : decode cX5_readValue 44 = .ok (.invokevirtual 181, 3) := by decide +kernel
theorem dX5_readValue_47 : decode cX5_readValue 47 = .ok (.goto 83, 3) := by decide +kernel
theorem dX5_readValue_50 : decode cX5_readValue 50 = .ok (.aload_n 0, 1) := by decide +kernel
theorem dX5_readValue_51 : decode cX5_readValue 51 = .ok (.ldc 209, 2) := by decide +kernel
theorem dX5_readValue_53 : decode cX5_readValue 53 = .ok (.invokevirtual 57, 3) := by decide +kernel
theorem dX5_readValue_56 : decode cX5_readValue 56 = .ok (.ifCond .eq 19, 3) := by decide +kernel
theorem dX5_readValue_59 : decode cX5_readValue 59 = .ok (.aload_n 0, 1) := by decide +kernel
theorem dX5_readValue_60 : decode cX5_readValue 60 = .ok (.getfield 19, 3) := by decide +kernel
theorem dX5_readValue_63 : decode cX5_readValue 63 = .ok (.getfield 160, 3) := by decide +kernel
theorem dX5_readValue_66 : decode cX5_readValue 66 = .ok (.sipush 10002, 3) := by decide +kernel
theorem dX5_readValue_69 : decode cX5_readValue 69 = .ok (.invokevirtual 181, 3) := by decide +kernel
theorem dX5_readValue_72 : decode cX5_readValue 72 = .ok (.goto 58, 3) := by decide +kernel
theorem dX5_readValue_75 : decode cX5_readValue 75 = .ok (.aload_n 0, 1) := by decide +kernel
theorem dX5_readValue_76 : decode cX5_readValue 76 = .ok (.ldc 55, 2) := by decide +kernel
theorem dX5_readValue_78 : decode cX5_readValue 78 = .ok (.invokevirtual 57, 3) := by decide +kernel
theorem dX5_readValue_81 : decode cX5_readValue 81 = .ok (.ifCond .eq 19, 3) := by decide +kernel
theorem dX5_readValue_84 : decode cX5_readValue 84 = .ok (.aload_n 0, 1) := by decide +kernel
theorem dX5_readValue_85 : decode cX5_readValue 85 = .ok (.getfield 19, 3) := by decide +kernel
theorem dX5_readValue_88 : decode cX5_readValue 88 = .ok (.getfield 160, 3) := by decide +kernel
theorem dX5_readValue_91 : decode cX5_readValue 91 = .ok (.sipush 10003, 3) := by decide +kernel
theorem dX5_readValue_94 : decode cX5_readValue 94 = .ok (.invokevirtual 181, 3) := by decide +kernel
theorem dX5_readValue_97 : decode cX5_readValue 97 = .ok (.goto 33, 3) := by decide +kernel
theorem dX5_readValue_100 : decode cX5_readValue 100 = .ok (.aload_n 0, 1) := by decide +kernel
theorem dX5_readValue_101 : decode cX5_readValue 101 = .ok (.ldc 211, 2) := by decide +kernel
theorem dX5_readValue_103 : decode cX5_readValue 103 = .ok (.invokevirtual 57, 3) := by decide +kernel
theorem dX5_readValue_106 : decode cX5_readValue 106 = .ok (.ifCond .eq 19, 3) := by decide +kernel
theorem dX5_readValue_109 : decode cX5_readValue 109 = .ok (.aload_n 0, 1) := by decide +kernel
theorem dX5_readValue_110 : decode cX5_readValue 110 = .ok (.getfield 19, 3) := by decide +kernel
theorem dX5_readValue_113 : decode cX5_readValue 113 = .ok (.getfield 160, 3) := by decide +kernel
theorem dX5_readValue_116 : decode cX5_readValue 116 = .ok (.sipush 10004, 3) := by decide +kernel
theorem dX5_readValue_119 : decode cX5_readValue 119 = .ok (.invokevirtual 181, 3) := by decide +kernel
theorem dX5_readValue_122 : decode cX5_readValue 122 = .ok (.goto 8, 3) := by decide +kernel
theorem dX5_readValue_125 : decode cX5_readValue 125 = .ok (.aload_n 0, 1) := by decide +kernel
theorem dX5_readValue_126 : decode cX5_readValue 126 = .ok (.iconst 3, 1) := by decide +kernel
theorem dX5_readValue_127 : decode cX5_readValue 127 = .ok (.invokevirtual 94, 3) := by decide +kernel
theorem dX5_readValue_130 : decode cX5_readValue 130 = .ok (.aload_n 0, 1) := by decide +kernel
theorem dX5_readValue_131 : decode cX5_readValue 131 = .ok (.invokevirtual 43, 3) := by decide +kernel
theorem dX5_readValue_134 : decode cX5_readValue 134 = .ok (.return_, 1) := by decide +kernel
theorem dX5_takeSign_0 : decode cX5_takeSign 0 = .ok (.aload_n 0, 1) := by decide +kernel
theorem dX5_takeSign_1 : decode cX5_takeSign 1 = .ok (.iload_n 1, 1) := by decide +kernel
theorem dX5_takeSign_2 : decode cX5_takeSign 2 = .ok (.invokevirtual 172, 3) := by decide +kernel
theorem dX5_takeSign_5 : decode cX5_takeSign 5 = .ok (.ifCond .ne 8, 3) := by decide +kernel
theorem dX5_takeSign_8 : decode cX5_takeSign 8 = .ok (.aload_n 0, 1) := by decide +kernel
theorem dX5_takeSign_9 : decode cX5_takeSign 9 = .ok (.iconst 1, 1) := by decide +kernel
theorem dX5_takeSign_10 : decode cX5_takeSign 10 = .ok (.invokevirtual 94, 3) := by decide +kernel
theorem dX5_takeSign_13 : decode cX5_takeSign 13 = .ok (.aload_n 0, 1) := by decide +kernel
theorem dX5_takeSign_14 : decode cX5_takeSign 14 = .ok (.invokevirtual 43, 3) := by decide +kernel
theorem dX5_takeSign_17 : decode cX5_takeSign 17 = .ok (.return_, 1) := by decide +kernel
theorem dX5_readPart_0 : decode cX5_readPart 0 = .ok (.aload_n 0, 1) := by decide +kernel
theorem dX5_readPart_1 : decode cX5_readPart 1 = .ok (.getfield 46, 3) := by decide +kernel
theorem dX5_readPart_4 : decode cX5_readPart 4 = .ok (.iconst 2, 1) := by decide +kernel
theorem dX5_readPart_5 : decode cX5_readPart 5 = .ok (.if_icmp .ne 24, 3) := by decide +kernel
theorem dX5_readPart_8 : decode cX5_readPart 8 = .ok (.aload_n 0, 1) := by decide +kernel
theorem dX5_readPart_9 : decode cX5_readPart 9 = .ok (.getfield 19, 3) := by decide +kernel
theorem dX5_readPart_12 : decode cX5_readPart 12 = .ok (.getfield 160, 3) := by decide +kernel
theorem dX5_readPart_15 : decode cX5_readPart 15 = .ok (.aload_n 0, 1) := by decide +kernel
theorem dX5_readPart_16 : decode cX5_readPart 16 = .ok (.iconst 0, 1) := by decide +kernel
theorem dX5_readPart_17 : decode cX5_readPart 17 = .ok (.sipush 9999, 3) := by decide +kernel
theorem dX5_readPart_20 : decode cX5_readPart 20 = .ok (.invokevirtual 120, 3) := by decide +kernel
theorem dX5_readPart_23 : decode cX5_readPart 23 = .ok (.invokevirtual 181, 3) := by decide +kernel
theorem dX5_readPart_26 : decode cX5_readPart 26 = .ok (.goto 52, 3) := by decide +kernel
theorem dX5_readPart_29 : decode cX5_readPart 29 = .ok (.aload_n 0, 1) := by decide +kernel
theorem dX5_readPart_30 : decode cX5_readPart 30 = .ok (.getfield 46, 3) := by decide +kernel
theorem dX5_readPart_33 : decode cX5_readPart 33 = .ok (.iconst 1, 1) := by decide +kernel
theorem dX5_readPart_34 : decode cX5_readPart 34 = .ok (.if_icmp .ne 10, 3) := by decide +kernel
theorem dX5_readPart_37 : decode cX5_readPart 37 = .ok (.aload_n 0, 1) := by decide +kernel
theorem dX5_readPart_38 : decode cX5_readPart 38 = .ok (.invokevirtual 203, 3) := by decide +kernel
theorem dX5_readPart_41 : decode cX5_readPart 41 = .ok (.goto 37, 3) := by decide +kernel
theorem dX5_readPart_44 : decode cX5_readPart 44 = .ok (.aload_n 0, 1) := by decide +kernel
theorem dX5_readPart_45 : decode cX5_readPart 45 = .ok (.bipush 40, 2) := by decide +kernel
theorem dX5_readPart_47 : decode cX5_readPart 47 = .ok (.invokevirtual 172, 3) := by decide +kernel
theorem dX5_readPart_50 : decode cX5_readPart 50 = .ok (.ifCond .eq 23, 3) := by decide +kernel
theorem dX5_readPart_53 : decode cX5_readPart 53 = .ok (.aload_n 0, 1) := by decide +kernel
theorem dX5_readPart_54 : decode cX5_readPart 54 = .ok (.invokevirtual 43, 3) := by decide +kernel
theorem dX5_readPart_57 : decode cX5_readPart 57 = .ok (.aload_n 0, 1) := by decide +kernel
theorem dX5_readPart_58 : decode cX5_readPart 58 = .ok (.iload_n 1, 1) := by decide +kernel
theorem dX5_readPart_59 : decode cX5_readPart 59 = .ok (.iconst 1, 1) := by decide +kernel
theorem dX5_readPart_60 : decode cX5_readPart 60 = .ok (.iadd, 1) := by decide +kernel
theorem dX5_readPart_61 : decode cX5_readPart 61 = .ok (.invokevirtual 169, 3) := by decide +kernel
theorem dX5_readPart_64 : decode cX5_readPart 64 = .ok (.aload_n 0, 1) := by decide +kernel
theorem dX5_readPart_65 : decode cX5_readPart 65 = .ok (.bipush 41, 2) := by decide +kernel
theorem dX5_readPart_67 : decode cX5_readPart 67 = .ok (.invokevirtual 97, 3) := by decide +kernel
theorem dX5_readPart_70 : decode cX5_readPart 70 = .ok (.goto 8, 3) := by decide +kernel
theorem dX5_readPart_73 : decode cX5_readPart 73 = .ok (.aload_n 0, 1) := by decide +kernel
theorem dX5_readPart_74 : decode cX5_readPart 74 = .ok (.iconst 1, 1) := by decide +kernel
theorem dX5_readPart_75 : decode cX5_readPart 75 = .ok (.invokevirtual 94, 3) := by decide +kernel
theorem dX5_readPart_78 : decode cX5_readPart 78 = .ok (.return_, 1) := by decide +kernel
theorem dX5_readProduct_0 : decode cX5_readProduct 0 = .ok (.aload_n 0, 1) := by decide +kernel
theorem dX5_readProduct_1 : decode cX5_readProduct 1 = .ok (.iload_n 1, 1) := by decide +kernel
theorem dX5_readProduct_2 : decode cX5_readProduct 2 = .ok (.invokevirtual 200, 3) := by decide +kernel
theorem dX5_readProduct_5 : decode cX5_readProduct 5 = .ok (.iconst 0, 1) := by decide +kernel
theorem dX5_readProduct_6 : decode cX5_readProduct 6 = .ok (.istore_n 2, 1) := by decide +kernel
theorem dX5_readProduct_7 : decode cX5_readProduct 7 = .ok (.iload_n 2, 1) := by decide +kernel
theorem dX5_readProduct_8 : decode cX5_readProduct 8 = .ok (.sipush 600, 3) := by decide +kernel
theorem dX5_readProduct_11 : decode cX5_readProduct 11 = .ok (.if_icmp .ge 66, 3) := by decide +kernel
theorem dX5_readProduct_14 : decode cX5_readProduct 14 = .ok (.aload_n 0, 1) := by decide +kernel
theorem dX5_readProduct_15 : decode cX5_readProduct 15 = .ok (.bipush 42, 2) := by decide +kernel
theorem dX5_readProduct_17 : decode cX5_readProduct 17 = .ok (.invokevirtual 172, 3) := by decide +kernel
theorem dX5_readProduct_20 : decode cX5_readProduct 20 = .ok (.ifCond .ne 12, 3) := by decide +kernel
theorem dX5_readProduct_23 : decode cX5_readProduct 23 = .ok (.aload_n 0, 1) := by decide +kernel
theorem dX5_readProduct_24 : decode cX5_readProduct 24 = .ok (.bipush 47, 2) := by decide +kernel
theorem dX5_readProduct_26 : decode cX5_readProduct 26 = .ok (.invokevirtual 172, 3) := by decide +kernel
theorem dX5_readProduct_29 : decode cX5_readProduct 29 = .ok (.ifCond .eq 48, 3) := by decide +kernel
theorem dX5_readProduct_32 : decode cX5_readProduct 32 = .ok (.aload_n 0, 1) := by decide +kernel
theorem dX5_readProduct_33 : decode cX5_readProduct 33 = .ok (.bipush 42, 2) := by decide +kernel
theorem dX5_readProduct_35 : decode cX5_readProduct 35 = .ok (.invokevirtual 172, 3) := by decide +kernel
theorem dX5_readProduct_38 : decode cX5_readProduct 38 = .ok (.ifCond .eq 9, 3) := by decide +kernel
theorem dX5_readProduct_41 : decode cX5_readProduct 41 = .ok (.sipush 10012, 3) := by decide +kernel
theorem dX5_readProduct_44 : decode cX5_readProduct 44 = .ok (.goto 6, 3) := by decide +kernel
theorem dX5_readProduct_47 : decode cX5_readProduct 47 = .ok (.sipush 10013, 3) := by decide +kernel
theorem dX5_readProduct_50 : decode cX5_readProduct 50 = .ok (.istore_n 3, 1) := by decide +kernel
theorem dX5_readProduct_51 : decode cX5_readProduct 51 = .ok (.aload_n 0, 1) := by decide +kernel
theorem dX5_readProduct_52 : decode cX5_readProduct 52 = .ok (.invokevirtual 43, 3) := by decide +kernel
theorem dX5_readProduct_55 : decode cX5_readProduct 55 = .ok (.aload_n 0, 1) := by decide +kernel
theorem dX5_readProduct_56 : decode cX5_readProduct 56 = .ok (.iload_n 1, 1) := by decide +kernel
theorem dX5_readProduct_57 : decode cX5_readProduct 57 = .ok (.invokevirtual 200, 3) := by decide +kernel
theorem dX5_readProduct_60 : decode cX5_readProduct 60 = .ok (.aload_n 0, 1) := by decide +kernel
theorem dX5_readProduct_61 : decode cX5_readProduct 61 = .ok (.getfield 19, 3) := by decide +kernel
theorem dX5_readProduct_64 : decode cX5_readProduct 64 = .ok (.getfield 160, 3) := by decide +kernel
theorem dX5_readProduct_67 : decode cX5_readProduct 67 = .ok (.iload_n 3, 1) := by decide +kernel
theorem dX5_readProduct_68 : decode cX5_readProduct 68 = .ok (.invokevirtual 181, 3) := by decide +kernel
theorem dX5_readProduct_71 : decode cX5_readProduct 71 = .ok (.iinc 2 1, 3) := by decide +kernel
theorem dX5_readProduct_74 : decode cX5_readProduct 74 = .ok (.goto (-67), 3) := by decide +kernel
theorem dX5_readProduct_77 : decode cX5_readProduct 77 = .ok (.return_, 1) := by decide +kernel
theorem dX5_readSum_0 : decode cX5_readSum 0 = .ok (.aload_n 0, 1) := by decide +kernel
theorem dX5_readSum_1 : decode cX5_readSum 1 = .ok (.iload_n 1, 1) := by decide +kernel
theorem dX5_readSum_2 : decode cX5_readSum 2 = .ok (.invokevirtual 197, 3) := by decide +kernel
theorem dX5_readSum_5 : decode cX5_readSum 5 = .ok (.iconst 0, 1) := by decide +kernel
theorem dX5_readSum_6 : decode cX5_readSum 6 = .ok (.istore_n 2, 1) := by decide +kernel
theorem dX5_readSum_7 : decode cX5_readSum 7 = .ok (.iload_n 2, 1) := by decide +kernel
theorem dX5_readSum_8 : decode cX5_readSum 8 = .ok (.sipush 600, 3) := by decide +kernel
theorem dX5_readSum_11 : decode cX5_readSum 11 = .ok (.if_icmp .ge 66, 3) := by decide +kernel
theorem dX5_readSum_14 : decode cX5_readSum 14 = .ok (.aload_n 0, 1) := by decide +kernel
theorem dX5_readSum_15 : decode cX5_readSum 15 = .ok (.bipush 43, 2) := by decide +kernel
theorem dX5_readSum_17 : decode cX5_readSum 17 = .ok (.invokevirtual 172, 3) := by decide +kernel
theorem dX5_readSum_20 : decode cX5_readSum 20 = .ok (.ifCond .ne 12, 3) := by decide +kernel
theorem dX5_readSum_23 : decode cX5_readSum 23 = .ok (.aload_n 0, 1) := by decide +kernel
theorem dX5_readSum_24 : decode cX5_readSum 24 = .ok (.bipush 45, 2) := by decide +kernel
theorem dX5_readSum_26 : decode cX5_readSum 26 = .ok (.invokevirtual 172, 3) := by decide +kernel
theorem dX5_readSum_29 : decode cX5_readSum 29 = .ok (.ifCond .eq 48, 3) := by decide +kernel
theorem dX5_readSum_32 : decode cX5_readSum 32 = .ok (.aload_n 0, 1) := by decide +kernel
theorem dX5_readSum_33 : decode cX5_readSum 33 = .ok (.bipush 43, 2) := by decide +kernel
theorem dX5_readSum_35 : decode cX5_readSum 35 = .ok (.invokevirtual 172, 3) := by decide +kernel
theorem dX5_readSum_38 : decode cX5_readSum 38 = .ok (.ifCond .eq 9, 3) := by decide +kernel
theorem dX5_readSum_41 : decode cX5_readSum 41 = .ok (.sipush 10010, 3) := by decide +kernel
theorem dX5_readSum_44 : decode cX5_readSum 44 = .ok (.goto 6, 3) := by decide +kernel
theorem dX5_readSum_47 : decode cX5_readSum 47 = .ok (.sipush 10011, 3) := by decide +kernel
theorem dX5_readSum_50 : decode cX5_readSum 50 = .ok (.istore_n 3, 1) := by decide +kernel
theorem dX5_readSum_51 : decode cX5_readSum 51 = .ok (.aload_n 0, 1) := by decide +kernel
theorem dX5_readSum_52 : decode cX5_readSum 52 = .ok (.invokevirtual 43, 3) := by decide +kernel
theorem dX5_readSum_55 : decode cX5_readSum 55 = .ok (.aload_n 0, 1) := by decide +kernel
theorem dX5_readSum_56 : decode cX5_readSum 56 = .ok (.iload_n 1, 1) := by decide +kernel
theorem dX5_readSum_57 : decode cX5_readSum 57 = .ok (.invokevirtual 197, 3) := by decide +kernel
theorem dX5_readSum_60 : decode cX5_readSum 60 = .ok (.aload_n 0, 1) := by decide +kernel
theorem dX5_readSum_61 : decode cX5_readSum 61 = .ok (.getfield 19, 3) := by decide +kernel
theorem dX5_readSum_64 : decode cX5_readSum 64 = .ok (.getfield 160, 3) := by decide +kernel
theorem dX5_readSum_67 : decode cX5_readSum 67 = .ok (.iload_n 3, 1) := by decide +kernel
theorem dX5_readSum_68 : decode cX5_readSum 68 = .ok (.invokevirtual 181, 3) := by decide +kernel
theorem dX5_readSum_71 : decode cX5_readSum 71 = .ok (.iinc 2 1, 3) := by decide +kernel
theorem dX5_readSum_74 : decode cX5_readSum 74 = .ok (.goto (-67), 3) := by decide +kernel
theorem dX5_readSum_77 : decode cX5_readSum 77 = .ok (.return_, 1) := by decide +kernel
def f_X5_readRoad_65  (P : PMem) (I : Mem) (v1 : Int32) (v2 : Int32) : Option (Mem) :=
  (f_X5_advance I).bind fun y1 =>
  (f_X5_takeNumber y1 (1 : Int32) (9 : Int32)).bind fun y2 =>
  if (y2.2 5 0 0 0) = 0 then (gd (decide ((P 5 0 0 4) < 2)) <|
  gd (inb v1 9) <|
  gd (inb v2 9) <|
  bnd (upd4 y2.2 28 (P 5 0 0 4) v1.toNatClampNeg v2.toNatClampNeg y2.1) fun I1' =>
  bnd (upd4 I1' 28 (P 5 0 0 4) v2.toNatClampNeg v1.toNatClampNeg y2.1) fun I2' =>
  bnd (upd4 I2' 3 (P 5 0 0 4) 0 2 ((I2' 3 (P 5 0 0 4) 0 2) + (1 : Int32))) fun I3' =>
  some I3') else (some y2.2)
theorem b_X5_readRoad_65 (X : CX) (Q : State → Prop) {I : Mem} {P : PMem} {O : Nat → Int64} {D : Bool} {n : Nat} {v1 : Int32} {v2 : Int32} {r : (Mem)}  (h : f_X5_readRoad_65 P I v1 v2 = some r) (E : EndR X cX5_readRoad RX5 4 (none) 5 n none r P O D Q) : Here X cX5_readRoad RX5 4 (none) 5 n 65 [some (.inr (.inr (5, 0, 0))), some (.inl v1), some (.inl v2), none] [] I P O D n Q := by
  unfold f_X5_readRoad_65 at h
  refine h_aload_n dX5_readRoad_65 rfl ?_
  obtain ⟨y1, hh1, h⟩ := obd_some h
  refine h_cVv [] (m_X5_advance  hh1) cw_X5_43 dX5_readRoad_66 rfl ok_5 (by decide) rfl (Or.inr rfl) rfl ?_
  refine h_aload_n dX5_readRoad_69 rfl ?_
  refine h_iconst (1 : Int32) dX5_readRoad_70 k_iconst_1 ?_
  refine h_bipush (9 : Int32) dX5_readRoad_71 k_bipush_9 ?_
  obtain ⟨y2, hh2, h⟩ := obd_some h
  refine h_cVi [.inl (1 : Int32), .inl (9 : Int32)] (m_X5_takeNumber  hh2) cw_X5_120 dX5_readRoad_73 rfl ok_5 (by decide) rfl (Or.inr rfl) rfl ?_
  refine h_istore_n dX5_readRoad_76 (by decide) rfl ?_
  refine h_aload_n dX5_readRoad_77 rfl ?_
  refine g_X5_37  dX5_readRoad_78 ?_
  refine h_if_ne (tgt := 121) dX5_readRoad_81 (by decide) (fun q1 => ?_) (fun q1 => ?_)
  · rw [if_neg q1] at h
    cases h
    exact h_vret dX5_readRoad_121 rfl E
  · rw [if_pos q1] at h
    refine h_aload_n dX5_readRoad_84 rfl ?_
    refine g_X5_19  dX5_readRoad_85 ?_
    obtain ⟨g1, h⟩ := gd_some h
    have w1 := of_decide_eq_true g1
    refine g_X5_123 (by omega) dX5_readRoad_88 ?_
    refine h_iload_n dX5_readRoad_91 rfl ?_
    obtain ⟨g2, h⟩ := gd_some h
    refine ag_27 (by omega) v1.toNatClampNeg rfl dX5_readRoad_92 g2 ?_
    have w2 := inb_lt g2
    refine h_iload_n dX5_readRoad_93 rfl ?_
    refine h_iload_n dX5_readRoad_94 rfl ?_
    obtain ⟨g3, h⟩ := gd_some h
    obtain ⟨I1', e1, h⟩ := bnd_some h
    refine as_28 (by omega) (by omega) v2.toNatClampNeg rfl dX5_readRoad_95 g3 ?_
    refine h_nmI e1 ?_
    refine h_aload_n dX5_readRoad_96 rfl ?_
    refine g_X5_19  dX5_readRoad_97 ?_
    refine g_X5_123 (by omega) dX5_readRoad_100 ?_
    refine h_iload_n dX5_readRoad_103 rfl ?_
    refine ag_27 (by omega) v2.toNatClampNeg rfl dX5_readRoad_104 g3 ?_
    have w3 := inb_lt g3
    refine h_iload_n dX5_readRoad_105 rfl ?_
    refine h_iload_n dX5_readRoad_106 rfl ?_
    obtain ⟨I2', e2, h⟩ := bnd_some h
    refine as_28 (by omega) (by omega) v1.toNatClampNeg rfl dX5_readRoad_107 g2 ?_
    refine h_nmI e2 ?_
    refine h_aload_n dX5_readRoad_108 rfl ?_
    refine g_X5_19  dX5_readRoad_109 ?_
    refine h_dup dX5_readRoad_112 (fun _ => rfl) ?_
    refine g_X5_109 (by omega) dX5_readRoad_113 ?_
    refine h_iconst (1 : Int32) dX5_readRoad_116 k_iconst_1 ?_
    refine h_iadd dX5_readRoad_117 ?_
    obtain ⟨I3', e3, h⟩ := bnd_some h
    refine p_X5_109 (by omega) dX5_readRoad_118 ?_
    refine h_nmI e3 ?_
    cases h
    exact h_vret dX5_readRoad_121 rfl E
def f_X5_readRoad_60  (P : PMem) (I : Mem) (v1 : Int32) (v2 : Int32) : Option (Mem) :=
  (f_X5_refuse I (4 : Int32)).bind fun y1 =>
  f_X5_readRoad_65 P y1 v1 v2
theorem b_X5_readRoad_60 (X : CX) (Q : State → Prop) {I : Mem} {P : PMem} {O : Nat → Int64} {D : Bool} {n : Nat} {v1 : Int32} {v2 : Int32} {r : (Mem)}  (h : f_X5_readRoad_60 P I v1 v2 = some r) (E : EndR X cX5_readRoad RX5 4 (none) 5 n none r P O D Q) : Here X cX5_readRoad RX5 4 (none) 5 n 60 [some (.inr (.inr (5, 0, 0))), some (.inl v1), some (.inl v2), none] [] I P O D n Q := by
  unfold f_X5_readRoad_60 at h
  refine h_aload_n dX5_readRoad_60 rfl ?_
  refine h_iconst (4 : Int32) dX5_readRoad_61 k_iconst_4 ?_
  obtain ⟨y1, hh1, h⟩ := obd_some h
  refine h_cVv [.inl (4 : Int32)] (m_X5_refuse  hh1) cw_X5_94 dX5_readRoad_62 rfl ok_5 (by decide) rfl (Or.inr rfl) rfl ?_
  exact (b_X5_readRoad_65 X Q  h E)
def f_X5_readRoad  (P : PMem) (I : Mem) : Option (Mem) :=
  gd (decide ((P 5 0 0 4) < 2)) <|
  if (I 3 (P 5 0 0 4) 0 2) < (14 : Int32) then ((f_X5_advance I).bind fun y1 =>
  (f_X5_lookAtTown P y1).bind fun y2 =>
  (f_X5_advance y2.2).bind fun y3 =>
  (f_X5_lookAtTown P y3).bind fun y4 =>
  if (y4.2 5 0 0 0) = 0 then (if y2.1 = y4.1 then (f_X5_readRoad_60 P y4.2 y2.1 y4.1) else ((f_X3_isJoined y4.2 (P 5 0 0 4) y2.1 y4.1).bind fun y5 =>
  if y5 = 0 then (f_X5_readRoad_65 P y4.2 y2.1 y4.1) else (f_X5_readRoad_60 P y4.2 y2.1 y4.1))) else (f_X5_readRoad_65 P y4.2 y2.1 y4.1)) else ((f_X5_refuse I (2 : Int32)).bind fun y6 =>
  some y6)
theorem b_X5_readRoad (X : CX) (Q : State → Prop) {I : Mem} {P : PMem} {O : Nat → Int64} {D : Bool} {n : Nat} {r : (Mem)}  (h : f_X5_readRoad P I = some r) (E : EndR X cX5_readRoad RX5 4 (none) 5 n none r P O D Q) : Here X cX5_readRoad RX5 4 (none) 5 n 0 [some (.inr (.inr (5, 0, 0))), none, none, none] [] I P O D n Q := by
  unfold f_X5_readRoad at h
  refine h_aload_n dX5_readRoad_0 rfl ?_
  refine g_X5_19  dX5_readRoad_1 ?_
  obtain ⟨g1, h⟩ := gd_some h
  have w1 := of_decide_eq_true g1
  refine g_X5_109 (by omega) dX5_readRoad_4 ?_
  refine h_bipush (14 : Int32) dX5_readRoad_7 k_bipush_14 ?_
  refine h_icmp_lt (tgt := 18) dX5_readRoad_9 (by decide) (fun q1 => ?_) (fun q1 => ?_)
  · rw [if_pos q1] at h
    refine h_aload_n dX5_readRoad_18 rfl ?_
    obtain ⟨y1, hh1, h⟩ := obd_some h
    refine h_cVv [] (m_X5_advance  hh1) cw_X5_43 dX5_readRoad_19 rfl ok_5 (by decide) rfl (Or.inr rfl) rfl ?_
    refine h_aload_n dX5_readRoad_22 rfl ?_
    obtain ⟨y2, hh2, h⟩ := obd_some h
    refine h_cVi [] (m_X5_lookAtTown  hh2) cw_X5_112 dX5_readRoad_23 rfl ok_5 (by decide) rfl (Or.inr rfl) rfl ?_
    refine h_istore_n dX5_readRoad_26 (by decide) rfl ?_
    refine h_aload_n dX5_readRoad_27 rfl ?_
    obtain ⟨y3, hh3, h⟩ := obd_some h
    refine h_cVv [] (m_X5_advance  hh3) cw_X5_43 dX5_readRoad_28 rfl ok_5 (by decide) rfl (Or.inr rfl) rfl ?_
    refine h_aload_n dX5_readRoad_31 rfl ?_
    obtain ⟨y4, hh4, h⟩ := obd_some h
    refine h_cVi [] (m_X5_lookAtTown  hh4) cw_X5_112 dX5_readRoad_32 rfl ok_5 (by decide) rfl (Or.inr rfl) rfl ?_
    refine h_istore_n dX5_readRoad_35 (by decide) rfl ?_
    refine h_aload_n dX5_readRoad_36 rfl ?_
    refine g_X5_37  dX5_readRoad_37 ?_
    refine h_if_ne (tgt := 65) dX5_readRoad_40 (by decide) (fun q2 => ?_) (fun q2 => ?_)
    · rw [if_neg q2] at h
      exact (b_X5_readRoad_65 X Q  h E)
    · rw [if_pos q2] at h
      refine h_iload_n dX5_readRoad_43 rfl ?_
      refine h_iload_n dX5_readRoad_44 rfl ?_
      refine h_icmp_eq (tgt := 60) dX5_readRoad_45 (by decide) (fun q3 => ?_) (fun q3 => ?_)
      · rw [if_pos q3] at h
        exact (b_X5_readRoad_60 X Q  h E)
      · rw [if_neg q3] at h
        refine h_aload_n dX5_readRoad_48 rfl ?_
        refine g_X5_19  dX5_readRoad_49 ?_
        refine h_iload_n dX5_readRoad_52 rfl ?_
        refine h_iload_n dX5_readRoad_53 rfl ?_
        obtain ⟨y5, hh5, h⟩ := obd_some h
        refine h_cVi [.inl y2.1, .inl y4.1] (m_X3_isJoined (by omega) hh5) cw_X5_116 dX5_readRoad_54 rfl (ok_3 (by omega)) (by decide) rfl (Or.inr rfl) rfl ?_
        refine h_if_eq (tgt := 65) dX5_readRoad_57 (by decide) (fun q4 => ?_) (fun q4 => ?_)
        · rw [if_pos q4] at h
          exact (b_X5_readRoad_65 X Q  h E)
        · rw [if_neg q4] at h
          exact (b_X5_readRoad_60 X Q  h E)
  · rw [if_neg q1] at h
    refine h_aload_n dX5_readRoad_12 rfl ?_
    refine h_iconst (2 : Int32) dX5_readRoad_13 k_iconst_2 ?_
    obtain ⟨y6, hh6, h⟩ := obd_some h
    refine h_cVv [.inl (2 : Int32)] (m_X5_refuse  hh6) cw_X5_94 dX5_readRoad_14 rfl ok_5 (by decide) rfl (Or.inr rfl) rfl ?_
    cases h
    exact h_vret dX5_readRoad_17 rfl E
theorem m_X5_readRoad {I : Mem} {P : PMem} {O : Nat → Int64} {D : Bool} {n : Nat}  {r : (Mem)}  (h : f_X5_readRoad P I = some r) : MethR yX5_readRoad cX5_readRoad 4 (none) 5 [.inr (.inr (5, 0, 0))] I P O D n none r P O D n := meth_R (Nat.le_refl _) (by decide) rfl (Nat.le_of_ble_eq_true rfl) rfl (fun X Q E => b_X5_readRoad X Q  h E)
def f_X5_readGossip  (P : PMem) (I : Mem) : Option (Mem) :=
  gd (decide ((P 5 0 0 4) < 2)) <|
  if (I 3 (P 5 0 0 4) 0 3) = 0 then ((f_X5_advance I).bind fun y1 =>
  (f_X5_takeNumber y1 (1 : Int32) (40 : Int32)).bind fun y2 =>
  bnd (upd4 y2.2 3 (P 5 0 0 4) 0 3 y2.1) fun I1' =>
  some I1') else ((f_X5_refuse I (5 : Int32)).bind fun y3 =>
  some y3)
theorem b_X5_readGossip (X : CX) (Q : State → Prop) {I : Mem} {P : PMem} {O : Nat → Int64} {D : Bool} {n : Nat} {r : (Mem)}  (h : f_X5_readGossip P I = some r) (E : EndR X cX5_readGossip RX5 1 (none) 5 n none r P O D Q) : Here X cX5_readGossip RX5 1 (none) 5 n 0 [some (.inr (.inr (5, 0, 0)))] [] I P O D n Q := by
  unfold f_X5_readGossip at h
  refine h_aload_n dX5_readGossip_0 rfl ?_
  refine g_X5_19  dX5_readGossip_1 ?_
  obtain ⟨g1, h⟩ := gd_some h
  have w1 := of_decide_eq_true g1
  refine g_X5_126 (by omega) dX5_readGossip_4 ?_
  refine h_if_eq (tgt := 16) dX5_readGossip_7 (by decide) (fun q1 => ?_) (fun q1 => ?_)
  · rw [if_pos q1] at h
    refine h_aload_n dX5_readGossip_16 rfl ?_
    obtain ⟨y1, hh1, h⟩ := obd_some h
    refine h_cVv [] (m_X5_advance  hh1) cw_X5_43 dX5_readGossip_17 rfl ok_5 (by decide) rfl (Or.inr rfl) rfl ?_
    refine h_aload_n dX5_readGossip_20 rfl ?_
    refine g_X5_19  dX5_readGossip_21 ?_
    refine h_aload_n dX5_readGossip_24 rfl ?_
    refine h_iconst (1 : Int32) dX5_readGossip_25 k_iconst_1 ?_
    refine h_bipush (40 : Int32) dX5_readGossip_26 k_bipush_40 ?_
    obtain ⟨y2, hh2, h⟩ := obd_some h
    refine h_cVi [.inl (1 : Int32), .inl (40 : Int32)] (m_X5_takeNumber  hh2) cw_X5_120 dX5_readGossip_28 rfl ok_5 (by decide) rfl (Or.inr rfl) rfl ?_
    obtain ⟨I1', e1, h⟩ := bnd_some h
    refine p_X5_126 (by omega) dX5_readGossip_31 ?_
    refine h_nmI e1 ?_
    cases h
    exact h_vret dX5_readGossip_34 rfl E
  · rw [if_neg q1] at h
    refine h_aload_n dX5_readGossip_10 rfl ?_
    refine h_iconst (5 : Int32) dX5_readGossip_11 k_iconst_5 ?_
    obtain ⟨y3, hh3, h⟩ := obd_some h
    refine h_cVv [.inl (5 : Int32)] (m_X5_refuse  hh3) cw_X5_94 dX5_readGossip_12 rfl ok_5 (by decide) rfl (Or.inr rfl) rfl ?_
    cases h
    exact h_vret dX5_readGossip_15 rfl E
theorem m_X5_readGossip {I : Mem} {P : PMem} {O : Nat → Int64} {D : Bool} {n : Nat}  {r : (Mem)}  (h : f_X5_readGossip P I = some r) : MethR yX5_readGossip cX5_readGossip 1 (none) 5 [.inr (.inr (5, 0, 0))] I P O D n none r P O D n := meth_R (Nat.le_refl _) (by decide) rfl (Nat.le_of_ble_eq_true rfl) rfl (fun X Q E => b_X5_readGossip X Q  h E)
def f_X5_readStop_50  (P : PMem) (I : Mem) (v1 : Int32) (v2 : Int32) (v4 : Int32) : Option (Int32 × Mem) :=
  gd (decide ((P 5 0 0 4) < 2)) <|
  gd (inb v1 5) <|
  gd (inb v2 7) <|
  bnd (upd4 I 38 (P 5 0 0 4) v1.toNatClampNeg v2.toNatClampNeg v4) fun I1' =>
  bnd (upd4 I1' 36 (P 5 0 0 4) 0 v1.toNatClampNeg (v2 + (1 : Int32))) fun I2' =>
  (f_X5_advance I2').bind fun y1 =>
  some (v4, y1)
theorem b_X5_readStop_50 (X : CX) (Q : State → Prop) {I : Mem} {P : PMem} {O : Nat → Int64} {D : Bool} {n : Nat} {v1 : Int32} {v2 : Int32} {v4 : Int32} {r : (Int32 × Mem)}  (h : f_X5_readStop_50 P I v1 v2 v4 = some r) (E : EndR X cX5_readStop RX5 5 (some .int) 5 n (some (.inl r.1)) r.2 P O D Q) : Here X cX5_readStop RX5 5 (some .int) 5 n 50 [some (.inr (.inr (5, 0, 0))), some (.inl v1), some (.inl v2), none, some (.inl v4)] [] I P O D n Q := by
  unfold f_X5_readStop_50 at h
  refine h_aload_n dX5_readStop_50 rfl ?_
  refine g_X5_19  dX5_readStop_51 ?_
  obtain ⟨g1, h⟩ := gd_some h
  have w1 := of_decide_eq_true g1
  refine g_X5_144 (by omega) dX5_readStop_54 ?_
  refine h_iload_n dX5_readStop_57 rfl ?_
  obtain ⟨g2, h⟩ := gd_some h
  refine ag_37 (by omega) v1.toNatClampNeg rfl dX5_readStop_58 g2 ?_
  have w2 := inb_lt g2
  refine h_iload_n dX5_readStop_59 rfl ?_
  refine h_iload dX5_readStop_60 rfl ?_
  obtain ⟨g3, h⟩ := gd_some h
  obtain ⟨I1', e1, h⟩ := bnd_some h
  refine as_38 (by omega) (by omega) v2.toNatClampNeg rfl dX5_readStop_62 g3 ?_
  refine h_nmI e1 ?_
  refine h_aload_n dX5_readStop_63 rfl ?_
  refine g_X5_19  dX5_readStop_64 ?_
  refine g_X5_147 (by omega) dX5_readStop_67 ?_
  refine h_iload_n dX5_readStop_70 rfl ?_
  refine h_iload_n dX5_readStop_71 rfl ?_
  refine h_iconst (1 : Int32) dX5_readStop_72 k_iconst_1 ?_
  refine h_iadd dX5_readStop_73 ?_
  obtain ⟨I2', e2, h⟩ := bnd_some h
  refine as_36 (by omega) v1.toNatClampNeg rfl dX5_readStop_74 g2 ?_
  refine h_nmI e2 ?_
  refine h_aload_n dX5_readStop_75 rfl ?_
  obtain ⟨y1, hh1, h⟩ := obd_some h
  refine h_cVv [] (m_X5_advance  hh1) cw_X5_43 dX5_readStop_76 rfl ok_5 (by decide) rfl (Or.inr rfl) rfl ?_
  refine h_iload dX5_readStop_79 rfl ?_
  cases h
  exact h_iret dX5_readStop_81 rfl E
def f_X5_readStop  (P : PMem) (I : Mem) (v1 : Int32) (v2 : Int32) (v3 : Int32) : Option (Int32 × Mem) :=
  if v2 < (7 : Int32) then ((f_X5_lookAtTown P I).bind fun y1 =>
  if (y1.2 5 0 0 0) = 0 then (if v3 = (-1 : Int32) then (f_X5_readStop_50 P y1.2 v1 v2 y1.1) else (gd (decide ((P 5 0 0 4) < 2)) <|
  (f_X3_isJoined y1.2 (P 5 0 0 4) v3 y1.1).bind fun y2 =>
  if y2 = 0 then ((f_X5_refuse y1.2 (6 : Int32)).bind fun y3 =>
  f_X5_readStop_50 P y3 v1 v2 y1.1) else (f_X5_readStop_50 P y1.2 v1 v2 y1.1))) else (f_X5_readStop_50 P y1.2 v1 v2 y1.1)) else ((f_X5_refuse I (2 : Int32)).bind fun y4 =>
  some ((-1 : Int32), y4))
theorem b_X5_readStop (X : CX) (Q : State → Prop) {I : Mem} {P : PMem} {O : Nat → Int64} {D : Bool} {n : Nat} {v1 : Int32} {v2 : Int32} {v3 : Int32} {r : (Int32 × Mem)}  (h : f_X5_readStop P I v1 v2 v3 = some r) (E : EndR X cX5_readStop RX5 5 (some .int) 5 n (some (.inl r.1)) r.2 P O D Q) : Here X cX5_readStop RX5 5 (some .int) 5 n 0 [some (.inr (.inr (5, 0, 0))), some (.inl v1), some (.inl v2), some (.inl v3), none] [] I P O D n Q := by
  unfold f_X5_readStop at h
  refine h_iload_n dX5_readStop_0 rfl ?_
  refine h_bipush (7 : Int32) dX5_readStop_1 k_bipush_7 ?_
  refine h_icmp_lt (tgt := 13) dX5_readStop_3 (by decide) (fun q1 => ?_) (fun q1 => ?_)
  · rw [if_pos q1] at h
    refine h_aload_n dX5_readStop_13 rfl ?_
    obtain ⟨y1, hh1, h⟩ := obd_some h
    refine h_cVi [] (m_X5_lookAtTown  hh1) cw_X5_112 dX5_readStop_14 rfl ok_5 (by decide) rfl (Or.inr rfl) rfl ?_
    refine h_istore dX5_readStop_17 (by decide) rfl ?_
    refine h_aload_n dX5_readStop_19 rfl ?_
    refine g_X5_37  dX5_readStop_20 ?_
    refine h_if_ne (tgt := 50) dX5_readStop_23 (by decide) (fun q2 => ?_) (fun q2 => ?_)
    · rw [if_neg q2] at h
      exact h_mask [true, true, true, false, true] (b_X5_readStop_50 X Q  h E)
    · rw [if_pos q2] at h
      refine h_iload_n dX5_readStop_26 rfl ?_
      refine h_iconst (-1 : Int32) dX5_readStop_27 k_iconst_m1 ?_
      refine h_icmp_eq (tgt := 50) dX5_readStop_28 (by decide) (fun q3 => ?_) (fun q3 => ?_)
      · rw [if_pos q3] at h
        exact h_mask [true, true, true, false, true] (b_X5_readStop_50 X Q  h E)
      · rw [if_neg q3] at h
        refine h_aload_n dX5_readStop_31 rfl ?_
        refine g_X5_19  dX5_readStop_32 ?_
        obtain ⟨g1, h⟩ := gd_some h
        have w1 := of_decide_eq_true g1
        refine h_iload_n dX5_readStop_35 rfl ?_
        refine h_iload dX5_readStop_36 rfl ?_
        obtain ⟨y2, hh2, h⟩ := obd_some h
        refine h_cVi [.inl v3, .inl y1.1] (m_X3_isJoined (by omega) hh2) cw_X5_116 dX5_readStop_38 rfl (ok_3 (by omega)) (by decide) rfl (Or.inr rfl) rfl ?_
        refine h_if_ne (tgt := 50) dX5_readStop_41 (by decide) (fun q4 => ?_) (fun q4 => ?_)
        · rw [if_neg q4] at h
          exact h_mask [true, true, true, false, true] (b_X5_readStop_50 X Q  h E)
        · rw [if_pos q4] at h
          refine h_aload_n dX5_readStop_44 rfl ?_
          refine h_bipush (6 : Int32) dX5_readStop_45 k_bipush_6 ?_
          obtain ⟨y3, hh3, h⟩ := obd_some h
          refine h_cVv [.inl (6 : Int32)] (m_X5_refuse  hh3) cw_X5_94 dX5_readStop_47 rfl ok_5 (by decide) rfl (Or.inr rfl) rfl ?_
          exact h_mask [true, true, true, false, true] (b_X5_readStop_50 X Q  h E)
  · rw [if_neg q1] at h
    refine h_aload_n dX5_readStop_6 rfl ?_
    refine h_iconst (2 : Int32) dX5_readStop_7 k_iconst_2 ?_
    obtain ⟨y4, hh4, h⟩ := obd_some h
    refine h_cVv [.inl (2 : Int32)] (m_X5_refuse  hh4) cw_X5_94 dX5_readStop_8 rfl ok_5 (by decide) rfl (Or.inr rfl) rfl ?_
    refine h_iconst (-1 : Int32) dX5_readStop_11 k_iconst_m1 ?_
    cases h
    exact h_iret dX5_readStop_12 rfl E
theorem m_X5_readStop {I : Mem} {P : PMem} {O : Nat → Int64} {D : Bool} {n : Nat} {v1 : Int32} {v2 : Int32} {v3 : Int32} {r : (Int32 × Mem)}  (h : f_X5_readStop P I v1 v2 v3 = some r) : MethR yX5_readStop cX5_readStop 5 (some .int) 5 [.inr (.inr (5, 0, 0)), .inl v1, .inl v2, .inl v3] I P O D n (some (.inl r.1)) r.2 P O D n := meth_R (Nat.le_refl _) (by decide) rfl (Nat.le_of_ble_eq_true rfl) rfl (fun X Q E => b_X5_readStop X Q  h E)
def f_X5_readJudge_105  (P : PMem) (I : Mem) : Option (Mem) :=
  gd (decide ((P 5 0 0 4) < 2)) <|
  bnd (upd4 I 3 (P 5 0 0 4) 0 7 ((I 3 (P 5 0 0 4) 0 7) + (1 : Int32))) fun I1' =>
  some I1'
theorem b_X5_readJudge_105 (X : CX) (Q : State → Prop) {I : Mem} {P : PMem} {O : Nat → Int64} {D : Bool} {n : Nat} {r : (Mem)}  (h : f_X5_readJudge_105 P I = some r) (E : EndR X cX5_readJudge RX5 5 (none) 6 n none r P O D Q) : Here X cX5_readJudge RX5 5 (none) 6 n 105 [some (.inr (.inr (5, 0, 0))), none, none, none, none] [] I P O D n Q := by
  unfold f_X5_readJudge_105 at h
  refine h_aload_n dX5_readJudge_105 rfl ?_
  refine g_X5_19  dX5_readJudge_106 ?_
  obtain ⟨g1, h⟩ := gd_some h
  have w1 := of_decide_eq_true g1
  refine h_dup dX5_readJudge_109 (fun _ => rfl) ?_
  refine g_X5_128 (by omega) dX5_readJudge_110 ?_
  refine h_iconst (1 : Int32) dX5_readJudge_113 k_iconst_1 ?_
  refine h_iadd dX5_readJudge_114 ?_
  obtain ⟨I1', e1, h⟩ := bnd_some h
  refine p_X5_128 (by omega) dX5_readJudge_115 ?_
  refine h_nmI e1 ?_
  cases h
  exact h_vret dX5_readJudge_118 rfl E
def f_X5_readJudge_90 (k70 : Mem → Int32 → Int32 → Int32 → Option (Mem)) (P : PMem) (I : Mem) (v2 : Int32) (v3 : Int32) (v4 : Int32) : Option (Mem) :=
  (f_X5_readStop P I v2 v4 v3).bind fun y1 =>
  k70 y1.2 v2 y1.1 (v4 + (1 : Int32))
theorem b_X5_readJudge_90 (X : CX) (Q : State → Prop) {I : Mem} {P : PMem} {O : Nat → Int64} {D : Bool} {n : Nat} {k70 : Mem → Int32 → Int32 → Int32 → Option (Mem)} {v2 : Int32} {v3 : Int32} {v4 : Int32} {r : (Mem)}  (H70 : ∀ (I : Mem) (v2 : Int32) (v3 : Int32) (v4 : Int32), k70 I v2 v3 v4 = some r → Here X cX5_readJudge RX5 5 (none) 6 n 70 [some (.inr (.inr (5, 0, 0))), none, some (.inl v2), some (.inl v3), some (.inl v4)] [] I P O D n Q) (h : f_X5_readJudge_90 k70 P I v2 v3 v4 = some r) (E : EndR X cX5_readJudge RX5 5 (none) 6 n none r P O D Q) : Here X cX5_readJudge RX5 5 (none) 6 n 90 [some (.inr (.inr (5, 0, 0))), none, some (.inl v2), some (.inl v3), some (.inl v4)] [] I P O D n Q := by
  unfold f_X5_readJudge_90 at h
  refine h_aload_n dX5_readJudge_90 rfl ?_
  refine h_iload_n dX5_readJudge_91 rfl ?_
  refine h_iload dX5_readJudge_92 rfl ?_
  refine h_iload_n dX5_readJudge_94 rfl ?_
  obtain ⟨y1, hh1, h⟩ := obd_some h
  refine h_cVi [.inl v2, .inl v4, .inl v3] (m_X5_readStop  hh1) cw_X5_140 dX5_readJudge_95 rfl ok_5 (by decide) rfl (Or.inr rfl) rfl ?_
  refine h_istore_n dX5_readJudge_98 (by decide) rfl ?_
  refine h_iinc (1 : Int32) dX5_readJudge_99 rfl k_iinc_1 (by decide) rfl ?_
  refine h_goto (tgt := 70) dX5_readJudge_102 (by decide) ?_
  exact (H70 _ _ _ _ h)
def f_X5_readJudge_70  (P : PMem) : Nat → Mem → Int32 → Int32 → Int32 → Option (Mem)
  | 0, _, _, _, _ => none
  | fu + 1, I, v2, v3, v4 =>
    if (7 : Int32) < v4 then (f_X5_readJudge_105 P I) else (if v4 = 0 then (f_X5_readJudge_90 (f_X5_readJudge_70 P fu) P I v2 v3 v4) else (if (I 5 0 0 5) = (2 : Int32) then (f_X5_readJudge_90 (f_X5_readJudge_70 P fu) P I v2 v3 v4) else (f_X5_readJudge_105 P I)))
theorem b_X5_readJudge_70 (X : CX) (Q : State → Prop) {P : PMem} {O : Nat → Int64} {D : Bool} {n : Nat} {r : (Mem)}  : ∀ (fu : Nat) {I : Mem} {v2 : Int32} {v3 : Int32} {v4 : Int32}, f_X5_readJudge_70 P fu I v2 v3 v4 = some r → EndR X cX5_readJudge RX5 5 (none) 6 n none r P O D Q → Here X cX5_readJudge RX5 5 (none) 6 n 70 [some (.inr (.inr (5, 0, 0))), none, some (.inl v2), some (.inl v3), some (.inl v4)] [] I P O D n Q := by
  intro fu
  induction fu with
  | zero => intro I v2 v3 v4 h E; cases h
  | succ fu ih =>
  intro I v2 v3 v4 h E
  have H70 : ∀ (I : Mem) (v2 : Int32) (v3 : Int32) (v4 : Int32), f_X5_readJudge_70 P fu I v2 v3 v4 = some r → Here X cX5_readJudge RX5 5 (none) 6 n 70 [some (.inr (.inr (5, 0, 0))), none, some (.inl v2), some (.inl v3), some (.inl v4)] [] I P O D n Q := fun _ _ _ _ b => ih b E
  simp only [f_X5_readJudge_70] at h
  refine h_iload dX5_readJudge_70 rfl ?_
  refine h_bipush (7 : Int32) dX5_readJudge_72 k_bipush_7 ?_
  refine h_icmp_gt (tgt := 105) dX5_readJudge_74 (by decide) (fun q1 => ?_) (fun q1 => ?_)
  · rw [if_pos q1] at h
    exact h_mask [true, false, false, false, false] (b_X5_readJudge_105 X Q  h E)
  · rw [if_neg q1] at h
    refine h_iload dX5_readJudge_77 rfl ?_
    refine h_if_eq (tgt := 90) dX5_readJudge_79 (by decide) (fun q2 => ?_) (fun q2 => ?_)
    · rw [if_pos q2] at h
      exact (b_X5_readJudge_90 X Q H70  h E)
    · rw [if_neg q2] at h
      refine h_aload_n dX5_readJudge_82 rfl ?_
      refine g_X5_46  dX5_readJudge_83 ?_
      refine h_iconst (2 : Int32) dX5_readJudge_86 k_iconst_2 ?_
      refine h_icmp_ne (tgt := 105) dX5_readJudge_87 (by decide) (fun q3 => ?_) (fun q3 => ?_)
      · rw [if_neg q3] at h
        exact h_mask [true, false, false, false, false] (b_X5_readJudge_105 X Q  h E)
      · rw [if_pos q3] at h
        exact (b_X5_readJudge_90 X Q H70  h E)
def f_X5_readJudge  (P : PMem) (I : Mem) (v1 : Int32) : Option (Mem) :=
  gd (decide ((P 5 0 0 4) < 2)) <|
  bnd (I 3 (P 5 0 0 4) 0 7) fun x1 =>
  if x1 < (5 : Int32) then ((f_X5_advance I).bind fun y1 =>
  gd (inb x1 5) <|
  bnd (upd4 y1 33 (P 5 0 0 4) 0 x1.toNatClampNeg v1) fun I1' =>
  (f_X5_takeNumber I1' (0 : Int32) (60 : Int32)).bind fun y2 =>
  bnd (upd4 y2.2 34 (P 5 0 0 4) 0 x1.toNatClampNeg y2.1) fun I2' =>
  (f_X5_takeNumber I2' (0 : Int32) (9 : Int32)).bind fun y3 =>
  bnd (upd4 y3.2 35 (P 5 0 0 4) 0 x1.toNatClampNeg y3.1) fun I3' =>
  f_X5_readJudge_70 P FU I3' x1 (-1 : Int32) (0 : Int32)) else ((f_X5_refuse I (2 : Int32)).bind fun y4 =>
  some y4)
theorem b_X5_readJudge (X : CX) (Q : State → Prop) {I : Mem} {P : PMem} {O : Nat → Int64} {D : Bool} {n : Nat} {v1 : Int32} {r : (Mem)}  (h : f_X5_readJudge P I v1 = some r) (E : EndR X cX5_readJudge RX5 5 (none) 6 n none r P O D Q) : Here X cX5_readJudge RX5 5 (none) 6 n 0 [some (.inr (.inr (5, 0, 0))), some (.inl v1), none, none, none] [] I P O D n Q := by
  unfold f_X5_readJudge at h
  refine h_aload_n dX5_readJudge_0 rfl ?_
  refine g_X5_19  dX5_readJudge_1 ?_
  obtain ⟨g1, h⟩ := gd_some h
  have w1 := of_decide_eq_true g1
  refine g_X5_128 (by omega) dX5_readJudge_4 ?_
  obtain ⟨x1, e1, h⟩ := bnd_some h
  refine h_nmv e1 ?_
  refine h_istore_n dX5_readJudge_7 (by decide) rfl ?_
  refine h_iload_n dX5_readJudge_8 rfl ?_
  refine h_iconst (5 : Int32) dX5_readJudge_9 k_iconst_5 ?_
  refine h_icmp_lt (tgt := 19) dX5_readJudge_10 (by decide) (fun q1 => ?_) (fun q1 => ?_)
  · rw [if_pos q1] at h
    refine h_aload_n dX5_readJudge_19 rfl ?_
    obtain ⟨y1, hh1, h⟩ := obd_some h
    refine h_cVv [] (m_X5_advance  hh1) cw_X5_43 dX5_readJudge_20 rfl ok_5 (by decide) rfl (Or.inr rfl) rfl ?_
    refine h_aload_n dX5_readJudge_23 rfl ?_
    refine g_X5_19  dX5_readJudge_24 ?_
    refine g_X5_131 (by omega) dX5_readJudge_27 ?_
    refine h_iload_n dX5_readJudge_30 rfl ?_
    refine h_iload_n dX5_readJudge_31 rfl ?_
    obtain ⟨g2, h⟩ := gd_some h
    obtain ⟨I1', e2, h⟩ := bnd_some h
    refine as_33 (by omega) x1.toNatClampNeg rfl dX5_readJudge_32 g2 ?_
    refine h_nmI e2 ?_
    refine h_aload_n dX5_readJudge_33 rfl ?_
    refine g_X5_19  dX5_readJudge_34 ?_
    refine g_X5_134 (by omega) dX5_readJudge_37 ?_
    refine h_iload_n dX5_readJudge_40 rfl ?_
    refine h_aload_n dX5_readJudge_41 rfl ?_
    refine h_iconst (0 : Int32) dX5_readJudge_42 k_iconst_0 ?_
    refine h_bipush (60 : Int32) dX5_readJudge_43 k_bipush_60 ?_
    obtain ⟨y2, hh2, h⟩ := obd_some h
    refine h_cVi [.inl (0 : Int32), .inl (60 : Int32)] (m_X5_takeNumber  hh2) cw_X5_120 dX5_readJudge_45 rfl ok_5 (by decide) rfl (Or.inr rfl) rfl ?_
    obtain ⟨I2', e3, h⟩ := bnd_some h
    refine as_34 (by omega) x1.toNatClampNeg rfl dX5_readJudge_48 g2 ?_
    refine h_nmI e3 ?_
    refine h_aload_n dX5_readJudge_49 rfl ?_
    refine g_X5_19  dX5_readJudge_50 ?_
    refine g_X5_137 (by omega) dX5_readJudge_53 ?_
    refine h_iload_n dX5_readJudge_56 rfl ?_
    refine h_aload_n dX5_readJudge_57 rfl ?_
    refine h_iconst (0 : Int32) dX5_readJudge_58 k_iconst_0 ?_
    refine h_bipush (9 : Int32) dX5_readJudge_59 k_bipush_9 ?_
    obtain ⟨y3, hh3, h⟩ := obd_some h
    refine h_cVi [.inl (0 : Int32), .inl (9 : Int32)] (m_X5_takeNumber  hh3) cw_X5_120 dX5_readJudge_61 rfl ok_5 (by decide) rfl (Or.inr rfl) rfl ?_
    obtain ⟨I3', e4, h⟩ := bnd_some h
    refine as_35 (by omega) x1.toNatClampNeg rfl dX5_readJudge_64 g2 ?_
    refine h_nmI e4 ?_
    refine h_iconst (-1 : Int32) dX5_readJudge_65 k_iconst_m1 ?_
    refine h_istore_n dX5_readJudge_66 (by decide) rfl ?_
    refine h_iconst (0 : Int32) dX5_readJudge_67 k_iconst_0 ?_
    refine h_istore dX5_readJudge_68 (by decide) rfl ?_
    exact h_mask [true, false, true, true, true] (b_X5_readJudge_70 X Q FU  h E)
  · rw [if_neg q1] at h
    refine h_aload_n dX5_readJudge_13 rfl ?_
    refine h_iconst (2 : Int32) dX5_readJudge_14 k_iconst_2 ?_
    obtain ⟨y4, hh4, h⟩ := obd_some h
    refine h_cVv [.inl (2 : Int32)] (m_X5_refuse  hh4) cw_X5_94 dX5_readJudge_15 rfl ok_5 (by decide) rfl (Or.inr rfl) rfl ?_
    cases h
    exact h_vret dX5_readJudge_18 rfl E
theorem m_X5_readJudge {I : Mem} {P : PMem} {O : Nat → Int64} {D : Bool} {n : Nat} {v1 : Int32} {r : (Mem)}  (h : f_X5_readJudge P I v1 = some r) : MethR yX5_readJudge cX5_readJudge 5 (none) 6 [.inr (.inr (5, 0, 0)), .inl v1] I P O D n none r P O D n := meth_R (Nat.le_refl _) (by decide) rfl (Nat.le_of_ble_eq_true rfl) rfl (fun X Q E => b_X5_readJudge X Q  h E)
def f_X5_readProof_44  (P : PMem) (I : Mem) (v1 : Int32) (v3 : Int32) : Option (Mem) :=
  (f_X5_advance I).bind fun y1 =>
  (f_X5_takeNumber y1 (0 : Int32) (9 : Int32)).bind fun y2 =>
  if (y2.2 5 0 0 0) = 0 then (gd (decide ((P 5 0 0 4) < 2)) <|
  gd (inb v1 6) <|
  gd (inb v3 9) <|
  bnd (upd4 y2.2 40 (P 5 0 0 4) v1.toNatClampNeg v3.toNatClampNeg y2.1) fun I1' =>
  some I1') else (some y2.2)
theorem b_X5_readProof_44 (X : CX) (Q : State → Prop) {I : Mem} {P : PMem} {O : Nat → Int64} {D : Bool} {n : Nat} {v1 : Int32} {v3 : Int32} {r : (Mem)}  (h : f_X5_readProof_44 P I v1 v3 = some r) (E : EndR X cX5_readProof RX5 5 (none) 5 n none r P O D Q) : Here X cX5_readProof RX5 5 (none) 5 n 44 [some (.inr (.inr (5, 0, 0))), some (.inl v1), none, some (.inl v3), none] [] I P O D n Q := by
  unfold f_X5_readProof_44 at h
  refine h_aload_n dX5_readProof_44 rfl ?_
  obtain ⟨y1, hh1, h⟩ := obd_some h
  refine h_cVv [] (m_X5_advance  hh1) cw_X5_43 dX5_readProof_45 rfl ok_5 (by decide) rfl (Or.inr rfl) rfl ?_
  refine h_aload_n dX5_readProof_48 rfl ?_
  refine h_iconst (0 : Int32) dX5_readProof_49 k_iconst_0 ?_
  refine h_bipush (9 : Int32) dX5_readProof_50 k_bipush_9 ?_
  obtain ⟨y2, hh2, h⟩ := obd_some h
  refine h_cVi [.inl (0 : Int32), .inl (9 : Int32)] (m_X5_takeNumber  hh2) cw_X5_120 dX5_readProof_52 rfl ok_5 (by decide) rfl (Or.inr rfl) rfl ?_
  refine h_istore dX5_readProof_55 (by decide) rfl ?_
  refine h_aload_n dX5_readProof_57 rfl ?_
  refine g_X5_37  dX5_readProof_58 ?_
  refine h_if_ne (tgt := 77) dX5_readProof_61 (by decide) (fun q1 => ?_) (fun q1 => ?_)
  · rw [if_neg q1] at h
    cases h
    exact h_vret dX5_readProof_77 rfl E
  · rw [if_pos q1] at h
    refine h_aload_n dX5_readProof_64 rfl ?_
    refine g_X5_19  dX5_readProof_65 ?_
    obtain ⟨g1, h⟩ := gd_some h
    have w1 := of_decide_eq_true g1
    refine g_X5_157 (by omega) dX5_readProof_68 ?_
    refine h_iload_n dX5_readProof_71 rfl ?_
    obtain ⟨g2, h⟩ := gd_some h
    refine ag_39 (by omega) v1.toNatClampNeg rfl dX5_readProof_72 g2 ?_
    have w2 := inb_lt g2
    refine h_iload_n dX5_readProof_73 rfl ?_
    refine h_iload dX5_readProof_74 rfl ?_
    obtain ⟨g3, h⟩ := gd_some h
    obtain ⟨I1', e1, h⟩ := bnd_some h
    refine as_40 (by omega) (by omega) v3.toNatClampNeg rfl dX5_readProof_76 g3 ?_
    refine h_nmI e1 ?_
    cases h
    exact h_vret dX5_readProof_77 rfl E
def f_X5_readProof  (P : PMem) (I : Mem) (v1 : Int32) (v2 : Int32) : Option (Mem) :=
  if v2 < (6 : Int32) then ((f_X5_lookAtTown P I).bind fun y1 =>
  if (y1.2 5 0 0 0) = 0 then (gd (decide ((P 5 0 0 4) < 2)) <|
  gd (inb v1 6) <|
  gd (inb y1.1 9) <|
  if (y1.2 40 (P 5 0 0 4) v1.toNatClampNeg y1.1.toNatClampNeg) = (-1 : Int32) then (f_X5_readProof_44 P y1.2 v1 y1.1) else ((f_X5_refuse y1.2 (4 : Int32)).bind fun y2 =>
  f_X5_readProof_44 P y2 v1 y1.1)) else (f_X5_readProof_44 P y1.2 v1 y1.1)) else ((f_X5_refuse I (2 : Int32)).bind fun y3 =>
  some y3)
theorem b_X5_readProof (X : CX) (Q : State → Prop) {I : Mem} {P : PMem} {O : Nat → Int64} {D : Bool} {n : Nat} {v1 : Int32} {v2 : Int32} {r : (Mem)}  (h : f_X5_readProof P I v1 v2 = some r) (E : EndR X cX5_readProof RX5 5 (none) 5 n none r P O D Q) : Here X cX5_readProof RX5 5 (none) 5 n 0 [some (.inr (.inr (5, 0, 0))), some (.inl v1), some (.inl v2), none, none] [] I P O D n Q := by
  unfold f_X5_readProof at h
  refine h_iload_n dX5_readProof_0 rfl ?_
  refine h_bipush (6 : Int32) dX5_readProof_1 k_bipush_6 ?_
  refine h_icmp_lt (tgt := 12) dX5_readProof_3 (by decide) (fun q1 => ?_) (fun q1 => ?_)
  · rw [if_pos q1] at h
    refine h_aload_n dX5_readProof_12 rfl ?_
    obtain ⟨y1, hh1, h⟩ := obd_some h
    refine h_cVi [] (m_X5_lookAtTown  hh1) cw_X5_112 dX5_readProof_13 rfl ok_5 (by decide) rfl (Or.inr rfl) rfl ?_
    refine h_istore_n dX5_readProof_16 (by decide) rfl ?_
    refine h_aload_n dX5_readProof_17 rfl ?_
    refine g_X5_37  dX5_readProof_18 ?_
    refine h_if_ne (tgt := 44) dX5_readProof_21 (by decide) (fun q2 => ?_) (fun q2 => ?_)
    · rw [if_neg q2] at h
      exact h_mask [true, true, false, true, false] (b_X5_readProof_44 X Q  h E)
    · rw [if_pos q2] at h
      refine h_aload_n dX5_readProof_24 rfl ?_
      refine g_X5_19  dX5_readProof_25 ?_
      obtain ⟨g1, h⟩ := gd_some h
      have w1 := of_decide_eq_true g1
      refine g_X5_157 (by omega) dX5_readProof_28 ?_
      refine h_iload_n dX5_readProof_31 rfl ?_
      obtain ⟨g2, h⟩ := gd_some h
      refine ag_39 (by omega) v1.toNatClampNeg rfl dX5_readProof_32 g2 ?_
      have w2 := inb_lt g2
      refine h_iload_n dX5_readProof_33 rfl ?_
      obtain ⟨g3, h⟩ := gd_some h
      refine al_40 (by omega) (by omega) y1.1.toNatClampNeg rfl dX5_readProof_34 g3 ?_
      refine h_iconst (-1 : Int32) dX5_readProof_35 k_iconst_m1 ?_
      refine h_icmp_eq (tgt := 44) dX5_readProof_36 (by decide) (fun q3 => ?_) (fun q3 => ?_)
      · rw [if_pos q3] at h
        exact h_mask [true, true, false, true, false] (b_X5_readProof_44 X Q  h E)
      · rw [if_neg q3] at h
        refine h_aload_n dX5_readProof_39 rfl ?_
        refine h_iconst (4 : Int32) dX5_readProof_40 k_iconst_4 ?_
        obtain ⟨y2, hh2, h⟩ := obd_some h
        refine h_cVv [.inl (4 : Int32)] (m_X5_refuse  hh2) cw_X5_94 dX5_readProof_41 rfl ok_5 (by decide) rfl (Or.inr rfl) rfl ?_
        exact h_mask [true, true, false, true, false] (b_X5_readProof_44 X Q  h E)
  · rw [if_neg q1] at h
    refine h_aload_n dX5_readProof_6 rfl ?_
    refine h_iconst (2 : Int32) dX5_readProof_7 k_iconst_2 ?_
    obtain ⟨y3, hh3, h⟩ := obd_some h
    refine h_cVv [.inl (2 : Int32)] (m_X5_refuse  hh3) cw_X5_94 dX5_readProof_8 rfl ok_5 (by decide) rfl (Or.inr rfl) rfl ?_
    cases h
    exact h_vret dX5_readProof_11 rfl E
theorem m_X5_readProof {I : Mem} {P : PMem} {O : Nat → Int64} {D : Bool} {n : Nat} {v1 : Int32} {v2 : Int32} {r : (Mem)}  (h : f_X5_readProof P I v1 v2 = some r) : MethR yX5_readProof cX5_readProof 5 (none) 5 [.inr (.inr (5, 0, 0)), .inl v1, .inl v2] I P O D n none r P O D n := meth_R (Nat.le_refl _) (by decide) rfl (Nat.le_of_ble_eq_true rfl) rfl (fun X Q E => b_X5_readProof X Q  h E)
def f_X5_readCase_56  (P : PMem) (I : Mem) : Option (Mem) :=
  gd (decide ((P 5 0 0 4) < 2)) <|
  bnd (upd4 I 3 (P 5 0 0 4) 0 13 ((I 3 (P 5 0 0 4) 0 13) + (1 : Int32))) fun I1' =>
  some I1'
theorem b_X5_readCase_56 (X : CX) (Q : State → Prop) {I : Mem} {P : PMem} {O : Nat → Int64} {D : Bool} {n : Nat} {r : (Mem)}  (h : f_X5_readCase_56 P I = some r) (E : EndR X cX5_readCase RX5 3 (none) 6 n none r P O D Q) : Here X cX5_readCase RX5 3 (none) 6 n 56 [some (.inr (.inr (5, 0, 0))), none, none] [] I P O D n Q := by
  unfold f_X5_readCase_56 at h
  refine h_aload_n dX5_readCase_56 rfl ?_
  refine g_X5_19  dX5_readCase_57 ?_
  obtain ⟨g1, h⟩ := gd_some h
  have w1 := of_decide_eq_true g1
  refine h_dup dX5_readCase_60 (fun _ => rfl) ?_
  refine g_X5_150 (by omega) dX5_readCase_61 ?_
  refine h_iconst (1 : Int32) dX5_readCase_64 k_iconst_1 ?_
  refine h_iadd dX5_readCase_65 ?_
  obtain ⟨I1', e1, h⟩ := bnd_some h
  refine p_X5_150 (by omega) dX5_readCase_66 ?_
  refine h_nmI e1 ?_
  cases h
  exact h_vret dX5_readCase_69 rfl E
def f_X5_readCase_44 (k26 : Mem → Int32 → Int32 → Option (Mem)) (P : PMem) (I : Mem) (v1 : Int32) (v2 : Int32) : Option (Mem) :=
  (f_X5_readProof P I v1 v2).bind fun y1 =>
  k26 y1 v1 (v2 + (1 : Int32))
theorem b_X5_readCase_44 (X : CX) (Q : State → Prop) {I : Mem} {P : PMem} {O : Nat → Int64} {D : Bool} {n : Nat} {k26 : Mem → Int32 → Int32 → Option (Mem)} {v1 : Int32} {v2 : Int32} {r : (Mem)}  (H26 : ∀ (I : Mem) (v1 : Int32) (v2 : Int32), k26 I v1 v2 = some r → Here X cX5_readCase RX5 3 (none) 6 n 26 [some (.inr (.inr (5, 0, 0))), some (.inl v1), some (.inl v2)] [] I P O D n Q) (h : f_X5_readCase_44 k26 P I v1 v2 = some r) (E : EndR X cX5_readCase RX5 3 (none) 6 n none r P O D Q) : Here X cX5_readCase RX5 3 (none) 6 n 44 [some (.inr (.inr (5, 0, 0))), some (.inl v1), some (.inl v2)] [] I P O D n Q := by
  unfold f_X5_readCase_44 at h
  refine h_aload_n dX5_readCase_44 rfl ?_
  refine h_iload_n dX5_readCase_45 rfl ?_
  refine h_iload_n dX5_readCase_46 rfl ?_
  obtain ⟨y1, hh1, h⟩ := obd_some h
  refine h_cVv [.inl v1, .inl v2] (m_X5_readProof  hh1) cw_X5_153 dX5_readCase_47 rfl ok_5 (by decide) rfl (Or.inr rfl) rfl ?_
  refine h_iinc (1 : Int32) dX5_readCase_50 rfl k_iinc_1 (by decide) rfl ?_
  refine h_goto (tgt := 26) dX5_readCase_53 (by decide) ?_
  exact (H26 _ _ _ h)
def f_X5_readCase_26  (P : PMem) : Nat → Mem → Int32 → Int32 → Option (Mem)
  | 0, _, _, _ => none
  | fu + 1, I, v1, v2 =>
    if (6 : Int32) < v2 then (f_X5_readCase_56 P I) else (if v2 = 0 then (f_X5_readCase_44 (f_X5_readCase_26 P fu) P I v1 v2) else (if (I 5 0 0 5) = (2 : Int32) then (f_X5_readCase_44 (f_X5_readCase_26 P fu) P I v1 v2) else (f_X5_readCase_56 P I)))
theorem b_X5_readCase_26 (X : CX) (Q : State → Prop) {P : PMem} {O : Nat → Int64} {D : Bool} {n : Nat} {r : (Mem)}  : ∀ (fu : Nat) {I : Mem} {v1 : Int32} {v2 : Int32}, f_X5_readCase_26 P fu I v1 v2 = some r → EndR X cX5_readCase RX5 3 (none) 6 n none r P O D Q → Here X cX5_readCase RX5 3 (none) 6 n 26 [some (.inr (.inr (5, 0, 0))), some (.inl v1), some (.inl v2)] [] I P O D n Q := by
  intro fu
  induction fu with
  | zero => intro I v1 v2 h E; cases h
  | succ fu ih =>
  intro I v1 v2 h E
  have H26 : ∀ (I : Mem) (v1 : Int32) (v2 : Int32), f_X5_readCase_26 P fu I v1 v2 = some r → Here X cX5_readCase RX5 3 (none) 6 n 26 [some (.inr (.inr (5, 0, 0))), some (.inl v1), some (.inl v2)] [] I P O D n Q := fun _ _ _ b => ih b E
  simp only [f_X5_readCase_26] at h
  refine h_iload_n dX5_readCase_26 rfl ?_
  refine h_bipush (6 : Int32) dX5_readCase_27 k_bipush_6 ?_
  refine h_icmp_gt (tgt := 56) dX5_readCase_29 (by decide) (fun q1 => ?_) (fun q1 => ?_)
  · rw [if_pos q1] at h
    exact h_mask [true, false, false] (b_X5_readCase_56 X Q  h E)
  · rw [if_neg q1] at h
    refine h_iload_n dX5_readCase_32 rfl ?_
    refine h_if_eq (tgt := 44) dX5_readCase_33 (by decide) (fun q2 => ?_) (fun q2 => ?_)
    · rw [if_pos q2] at h
      exact (b_X5_readCase_44 X Q H26  h E)
    · rw [if_neg q2] at h
      refine h_aload_n dX5_readCase_36 rfl ?_
      refine g_X5_46  dX5_readCase_37 ?_
      refine h_iconst (2 : Int32) dX5_readCase_40 k_iconst_2 ?_
      refine h_icmp_ne (tgt := 56) dX5_readCase_41 (by decide) (fun q3 => ?_) (fun q3 => ?_)
      · rw [if_neg q3] at h
        exact h_mask [true, false, false] (b_X5_readCase_56 X Q  h E)
      · rw [if_pos q3] at h
        exact (b_X5_readCase_44 X Q H26  h E)
def f_X5_readCase  (P : PMem) (I : Mem) : Option (Mem) :=
  gd (decide ((P 5 0 0 4) < 2)) <|
  bnd (I 3 (P 5 0 0 4) 0 13) fun x1 =>
  if x1 < (6 : Int32) then ((f_X5_advance I).bind fun y1 =>
  f_X5_readCase_26 P FU y1 x1 (0 : Int32)) else ((f_X5_refuse I (2 : Int32)).bind fun y2 =>
  some y2)
theorem b_X5_readCase (X : CX) (Q : State → Prop) {I : Mem} {P : PMem} {O : Nat → Int64} {D : Bool} {n : Nat} {r : (Mem)}  (h : f_X5_readCase P I = some r) (E : EndR X cX5_readCase RX5 3 (none) 6 n none r P O D Q) : Here X cX5_readCase RX5 3 (none) 6 n 0 [some (.inr (.inr (5, 0, 0))), none, none] [] I P O D n Q := by
  unfold f_X5_readCase at h
  refine h_aload_n dX5_readCase_0 rfl ?_
  refine g_X5_19  dX5_readCase_1 ?_
  obtain ⟨g1, h⟩ := gd_some h
  have w1 := of_decide_eq_true g1
  refine g_X5_150 (by omega) dX5_readCase_4 ?_
  obtain ⟨x1, e1, h⟩ := bnd_some h
  refine h_nmv e1 ?_
  refine h_istore_n dX5_readCase_7 (by decide) rfl ?_
  refine h_iload_n dX5_readCase_8 rfl ?_
  refine h_bipush (6 : Int32) dX5_readCase_9 k_bipush_6 ?_
  refine h_icmp_lt (tgt := 20) dX5_readCase_11 (by decide) (fun q1 => ?_) (fun q1 => ?_)
  · rw [if_pos q1] at h
    refine h_aload_n dX5_readCase_20 rfl ?_
    obtain ⟨y1, hh1, h⟩ := obd_some h
    refine h_cVv [] (m_X5_advance  hh1) cw_X5_43 dX5_readCase_21 rfl ok_5 (by decide) rfl (Or.inr rfl) rfl ?_
    refine h_iconst (0 : Int32) dX5_readCase_24 k_iconst_0 ?_
    refine h_istore_n dX5_readCase_25 (by decide) rfl ?_
    exact (b_X5_readCase_26 X Q FU  h E)
  · rw [if_neg q1] at h
    refine h_aload_n dX5_readCase_14 rfl ?_
    refine h_iconst (2 : Int32) dX5_readCase_15 k_iconst_2 ?_
    obtain ⟨y2, hh2, h⟩ := obd_some h
    refine h_cVv [.inl (2 : Int32)] (m_X5_refuse  hh2) cw_X5_94 dX5_readCase_16 rfl ok_5 (by decide) rfl (Or.inr rfl) rfl ?_
    cases h
    exact h_vret dX5_readCase_19 rfl E
theorem m_X5_readCase {I : Mem} {P : PMem} {O : Nat → Int64} {D : Bool} {n : Nat}  {r : (Mem)}  (h : f_X5_readCase P I = some r) : MethR yX5_readCase cX5_readCase 3 (none) 6 [.inr (.inr (5, 0, 0))] I P O D n none r P O D n := meth_R (Nat.le_refl _) (by decide) rfl (Nat.le_of_ble_eq_true rfl) rfl (fun X Q E => b_X5_readCase X Q  h E)
def f_X5_isSign  (I : Mem) (v1 : Int32) : Option (Int32) :=
  if (I 5 0 0 5) = (3 : Int32) then (gd (inb (I 5 0 0 6) 600) <|
  if (I 47 0 0 ((I 5 0 0 6).toNatClampNeg)) = v1 then (some (1 : Int32)) else (some (0 : Int32))) else (some (0 : Int32))
theorem b_X5_isSign (X : CX) (Q : State → Prop) {I : Mem} {P : PMem} {O : Nat → Int64} {D : Bool} {n : Nat} {v1 : Int32} {r : (Int32)}  (h : f_X5_isSign I v1 = some r) (E : EndR X cX5_isSign RX5 2 (some .boolean) 2 n (some (.inl r)) I P O D Q) : Here X cX5_isSign RX5 2 (some .boolean) 2 n 0 [some (.inr (.inr (5, 0, 0))), some (.inl v1)] [] I P O D n Q := by
  unfold f_X5_isSign at h
  refine h_aload_n dX5_isSign_0 rfl ?_
  refine g_X5_46  dX5_isSign_1 ?_
  refine h_iconst (3 : Int32) dX5_isSign_4 k_iconst_3 ?_
  refine h_icmp_ne (tgt := 25) dX5_isSign_5 (by decide) (fun q1 => ?_) (fun q1 => ?_)
  · rw [if_neg q1] at h
    refine h_iconst (0 : Int32) dX5_isSign_25 k_iconst_0 ?_
    cases h
    exact h_zret dX5_isSign_26 rfl rfl E
  · rw [if_pos q1] at h
    refine h_aload_n dX5_isSign_8 rfl ?_
    refine g_X5_15  dX5_isSign_9 ?_
    refine h_aload_n dX5_isSign_12 rfl ?_
    refine g_X5_216  dX5_isSign_13 ?_
    obtain ⟨g1, h⟩ := gd_some h
    refine al_47  ((I 5 0 0 6).toNatClampNeg) rfl dX5_isSign_16 g1 ?_
    refine h_iload_n dX5_isSign_17 rfl ?_
    refine h_icmp_ne (tgt := 25) dX5_isSign_18 (by decide) (fun q2 => ?_) (fun q2 => ?_)
    · rw [if_neg q2] at h
      refine h_iconst (0 : Int32) dX5_isSign_25 k_iconst_0 ?_
      cases h
      exact h_zret dX5_isSign_26 rfl rfl E
    · rw [if_pos q2] at h
      refine h_iconst (1 : Int32) dX5_isSign_21 k_iconst_1 ?_
      refine h_goto (tgt := 26) dX5_isSign_22 (by decide) ?_
      cases h
      exact h_zret dX5_isSign_26 rfl rfl E
theorem m_X5_isSign {I : Mem} {P : PMem} {O : Nat → Int64} {D : Bool} {n : Nat} {v1 : Int32} {r : (Int32)}  (h : f_X5_isSign I v1 = some r) : MethR yX5_isSign cX5_isSign 2 (some .boolean) 2 [.inr (.inr (5, 0, 0)), .inl v1] I P O D n (some (.inl r)) I P O D n := meth_R (Nat.le_refl _) (by decide) rfl (Nat.le_of_ble_eq_true rfl) rfl (fun X Q E => b_X5_isSign X Q  h E)
def f_X5_readValue_130  (P : PMem) (I : Mem) : Option (Mem) :=
  (f_X5_advance I).bind fun y1 =>
  some y1
theorem b_X5_readValue_130 (X : CX) (Q : State → Prop) {I : Mem} {P : PMem} {O : Nat → Int64} {D : Bool} {n : Nat} {r : (Mem)}  (h : f_X5_readValue_130 P I = some r) (E : EndR X cX5_readValue RX5 1 (none) 10 n none r P O D Q) : Here X cX5_readValue RX5 1 (none) 10 n 130 [some (.inr (.inr (5, 0, 0)))] [] I P O D n Q := by
  unfold f_X5_readValue_130 at h
  refine h_aload_n dX5_readValue_130 rfl ?_
  obtain ⟨y1, hh1, h⟩ := obd_some h
  refine h_cVv [] (m_X5_advance  hh1) cw_X5_43 dX5_readValue_131 rfl ok_5 (by decide) rfl (Or.inr rfl) rfl ?_
  cases h
  exact h_vret dX5_readValue_134 rfl E
def f_X5_readValue  (P : PMem) (I : Mem) : Option (Mem) :=
  (f_X5_isWord I 3).bind fun y1 =>
  if y1 = 0 then ((f_X5_isWord I 4).bind fun y2 =>
  if y2 = 0 then ((f_X5_isWord I 5).bind fun y3 =>
  if y3 = 0 then ((f_X5_isWord I 6).bind fun y4 =>
  if y4 = 0 then ((f_X5_isWord I 7).bind fun y5 =>
  if y5 = 0 then ((f_X5_refuse I (3 : Int32)).bind fun y6 =>
  f_X5_readValue_130 P y6) else (gd (decide ((P 5 0 0 4) < 2)) <|
  (f_X4_add (P 5 0 0 4) I (10004 : Int32)).bind fun y7 =>
  f_X5_readValue_130 P y7)) else (gd (decide ((P 5 0 0 4) < 2)) <|
  (f_X4_add (P 5 0 0 4) I (10003 : Int32)).bind fun y8 =>
  f_X5_readValue_130 P y8)) else (gd (decide ((P 5 0 0 4) < 2)) <|
  (f_X4_add (P 5 0 0 4) I (10002 : Int32)).bind fun y9 =>
  f_X5_readValue_130 P y9)) else (gd (decide ((P 5 0 0 4) < 2)) <|
  (f_X4_add (P 5 0 0 4) I (10001 : Int32)).bind fun y10 =>
  f_X5_readValue_130 P y10)) else (gd (decide ((P 5 0 0 4) < 2)) <|
  (f_X4_add (P 5 0 0 4) I (10000 : Int32)).bind fun y11 =>
  f_X5_readValue_130 P y11)
theorem b_X5_readValue (X : CX) (Q : State → Prop) {I : Mem} {P : PMem} {O : Nat → Int64} {D : Bool} {n : Nat} {r : (Mem)}  (h : f_X5_readValue P I = some r) (E : EndR X cX5_readValue RX5 1 (none) 10 n none r P O D Q) : Here X cX5_readValue RX5 1 (none) 10 n 0 [some (.inr (.inr (5, 0, 0)))] [] I P O D n Q := by
  unfold f_X5_readValue at h
  refine h_aload_n dX5_readValue_0 rfl ?_
  refine h_ldcs (text := "proof") (j := 3) dX5_readValue_1 (by decide) ?_
  obtain ⟨y1, hh1, h⟩ := obd_some h
  refine h_cVi [.inr (.inr (90, 3, 0))] (m_X5_isWord (by decide) hh1) cw_X5_57 dX5_readValue_3 rfl ok_5 (by decide) rfl (Or.inr rfl) rfl ?_
  refine h_if_eq (tgt := 25) dX5_readValue_6 (by decide) (fun q1 => ?_) (fun q1 => ?_)
  · rw [if_pos q1] at h
    refine h_aload_n dX5_readValue_25 rfl ?_
    refine h_ldcs (text := "harsh") (j := 4) dX5_readValue_26 (by decide) ?_
    obtain ⟨y2, hh2, h⟩ := obd_some h
    refine h_cVi [.inr (.inr (90, 4, 0))] (m_X5_isWord (by decide) hh2) cw_X5_57 dX5_readValue_28 rfl ok_5 (by decide) rfl (Or.inr rfl) rfl ?_
    refine h_if_eq (tgt := 50) dX5_readValue_31 (by decide) (fun q2 => ?_) (fun q2 => ?_)
    · rw [if_pos q2] at h
      refine h_aload_n dX5_readValue_50 rfl ?_
      refine h_ldcs (text := "day") (j := 5) dX5_readValue_51 (by decide) ?_
      obtain ⟨y3, hh3, h⟩ := obd_some h
      refine h_cVi [.inr (.inr (90, 5, 0))] (m_X5_isWord (by decide) hh3) cw_X5_57 dX5_readValue_53 rfl ok_5 (by decide) rfl (Or.inr rfl) rfl ?_
      refine h_if_eq (tgt := 75) dX5_readValue_56 (by decide) (fun q3 => ?_) (fun q3 => ?_)
      · rw [if_pos q3] at h
        refine h_aload_n dX5_readValue_75 rfl ?_
        refine h_ldcs (text := "town") (j := 6) dX5_readValue_76 (by decide) ?_
        obtain ⟨y4, hh4, h⟩ := obd_some h
        refine h_cVi [.inr (.inr (90, 6, 0))] (m_X5_isWord (by decide) hh4) cw_X5_57 dX5_readValue_78 rfl ok_5 (by decide) rfl (Or.inr rfl) rfl ?_
        refine h_if_eq (tgt := 100) dX5_readValue_81 (by decide) (fun q4 => ?_) (fun q4 => ?_)
        · rw [if_pos q4] at h
          refine h_aload_n dX5_readValue_100 rfl ?_
          refine h_ldcs (text := "said") (j := 7) dX5_readValue_101 (by decide) ?_
          obtain ⟨y5, hh5, h⟩ := obd_some h
          refine h_cVi [.inr (.inr (90, 7, 0))] (m_X5_isWord (by decide) hh5) cw_X5_57 dX5_readValue_103 rfl ok_5 (by decide) rfl (Or.inr rfl) rfl ?_
          refine h_if_eq (tgt := 125) dX5_readValue_106 (by decide) (fun q5 => ?_) (fun q5 => ?_)
          · rw [if_pos q5] at h
            refine h_aload_n dX5_readValue_125 rfl ?_
            refine h_iconst (3 : Int32) dX5_readValue_126 k_iconst_3 ?_
            obtain ⟨y6, hh6, h⟩ := obd_some h
            refine h_cVv [.inl (3 : Int32)] (m_X5_refuse  hh6) cw_X5_94 dX5_readValue_127 rfl ok_5 (by decide) rfl (Or.inr rfl) rfl ?_
            exact (b_X5_readValue_130 X Q  h E)
          · rw [if_neg q5] at h
            refine h_aload_n dX5_readValue_109 rfl ?_
            refine g_X5_19  dX5_readValue_110 ?_
            obtain ⟨g1, h⟩ := gd_some h
            have w1 := of_decide_eq_true g1
            refine g_X5_160 (by omega) dX5_readValue_113 ?_
            refine h_sipush (10004 : Int32) dX5_readValue_116 k_sipush_10004 ?_
            obtain ⟨y7, hh7, h⟩ := obd_some h
            refine h_cVv [.inl (10004 : Int32)] (m_X4_add (by omega) hh7) cw_X5_181 dX5_readValue_119 rfl (ok_4 (by omega)) (by decide) rfl (Or.inr rfl) rfl ?_
            refine h_goto (tgt := 130) dX5_readValue_122 (by decide) ?_
            exact (b_X5_readValue_130 X Q  h E)
        · rw [if_neg q4] at h
          refine h_aload_n dX5_readValue_84 rfl ?_
          refine g_X5_19  dX5_readValue_85 ?_
          obtain ⟨g2, h⟩ := gd_some h
          have w2 := of_decide_eq_true g2
          refine g_X5_160 (by omega) dX5_readValue_88 ?_
          refine h_sipush (10003 : Int32) dX5_readValue_91 k_sipush_10003 ?_
          obtain ⟨y8, hh8, h⟩ := obd_some h
          refine h_cVv [.inl (10003 : Int32)] (m_X4_add (by omega) hh8) cw_X5_181 dX5_readValue_94 rfl (ok_4 (by omega)) (by decide) rfl (Or.inr rfl) rfl ?_
          refine h_goto (tgt := 130) dX5_readValue_97 (by decide) ?_
          exact (b_X5_readValue_130 X Q  h E)
      · rw [if_neg q3] at h
        refine h_aload_n dX5_readValue_59 rfl ?_
        refine g_X5_19  dX5_readValue_60 ?_
        obtain ⟨g3, h⟩ := gd_some h
        have w3 := of_decide_eq_true g3
        refine g_X5_160 (by omega) dX5_readValue_63 ?_
        refine h_sipush (10002 : Int32) dX5_readValue_66 k_sipush_10002 ?_
        obtain ⟨y9, hh9, h⟩ := obd_some h
        refine h_cVv [.inl (10002 : Int32)] (m_X4_add (by omega) hh9) cw_X5_181 dX5_readValue_69 rfl (ok_4 (by omega)) (by decide) rfl (Or.inr rfl) rfl ?_
        refine h_goto (tgt := 130) dX5_readValue_72 (by decide) ?_
        exact (b_X5_readValue_130 X Q  h E)
    · rw [if_neg q2] at h
      refine h_aload_n dX5_readValue_34 rfl ?_
      refine g_X5_19  dX5_readValue_35 ?_
      obtain ⟨g4, h⟩ := gd_some h
      have w4 := of_decide_eq_true g4
      refine g_X5_160 (by omega) dX5_readValue_38 ?_
      refine h_sipush (10001 : Int32) dX5_readValue_41 k_sipush_10001 ?_
      obtain ⟨y10, hh10, h⟩ := obd_some h
      refine h_cVv [.inl (10001 : Int32)] (m_X4_add (by omega) hh10) cw_X5_181 dX5_readValue_44 rfl (ok_4 (by omega)) (by decide) rfl (Or.inr rfl) rfl ?_
      refine h_goto (tgt := 130) dX5_readValue_47 (by decide) ?_
      exact (b_X5_readValue_130 X Q  h E)
  · rw [if_neg q1] at h
    refine h_aload_n dX5_readValue_9 rfl ?_
    refine g_X5_19  dX5_readValue_10 ?_
    obtain ⟨g5, h⟩ := gd_some h
    have w5 := of_decide_eq_true g5
    refine g_X5_160 (by omega) dX5_readValue_13 ?_
    refine h_sipush (10000 : Int32) dX5_readValue_16 k_sipush_10000 ?_
    obtain ⟨y11, hh11, h⟩ := obd_some h
    refine h_cVv [.inl (10000 : Int32)] (m_X4_add (by omega) hh11) cw_X5_181 dX5_readValue_19 rfl (ok_4 (by omega)) (by decide) rfl (Or.inr rfl) rfl ?_
    refine h_goto (tgt := 130) dX5_readValue_22 (by decide) ?_
    exact (b_X5_readValue_130 X Q  h E)
theorem m_X5_readValue {I : Mem} {P : PMem} {O : Nat → Int64} {D : Bool} {n : Nat}  {r : (Mem)}  (h : f_X5_readValue P I = some r) : MethR yX5_readValue cX5_readValue 1 (none) 10 [.inr (.inr (5, 0, 0))] I P O D n none r P O D n := meth_R (Nat.le_refl _) (by decide) rfl (Nat.le_of_ble_eq_true rfl) rfl (fun X Q E => b_X5_readValue X Q  h E)
def f_X5_takeSign_13   (I : Mem) : Option (Mem) :=
  (f_X5_advance I).bind fun y1 =>
  some y1
theorem b_X5_takeSign_13 (X : CX) (Q : State → Prop) {I : Mem} {P : PMem} {O : Nat → Int64} {D : Bool} {n : Nat} {r : (Mem)}  (h : f_X5_takeSign_13 I = some r) (E : EndR X cX5_takeSign RX5 2 (none) 4 n none r P O D Q) : Here X cX5_takeSign RX5 2 (none) 4 n 13 [some (.inr (.inr (5, 0, 0))), none] [] I P O D n Q := by
  unfold f_X5_takeSign_13 at h
  refine h_aload_n dX5_takeSign_13 rfl ?_
  obtain ⟨y1, hh1, h⟩ := obd_some h
  refine h_cVv [] (m_X5_advance  hh1) cw_X5_43 dX5_takeSign_14 rfl ok_5 (by decide) rfl (Or.inr rfl) rfl ?_
  cases h
  exact h_vret dX5_takeSign_17 rfl E
def f_X5_takeSign   (I : Mem) (v1 : Int32) : Option (Mem) :=
  (f_X5_isSign I v1).bind fun y1 =>
  if y1 = 0 then ((f_X5_refuse I (1 : Int32)).bind fun y2 =>
  f_X5_takeSign_13 y2) else (f_X5_takeSign_13 I)
theorem b_X5_takeSign (X : CX) (Q : State → Prop) {I : Mem} {P : PMem} {O : Nat → Int64} {D : Bool} {n : Nat} {v1 : Int32} {r : (Mem)}  (h : f_X5_takeSign I v1 = some r) (E : EndR X cX5_takeSign RX5 2 (none) 4 n none r P O D Q) : Here X cX5_takeSign RX5 2 (none) 4 n 0 [some (.inr (.inr (5, 0, 0))), some (.inl v1)] [] I P O D n Q := by
  unfold f_X5_takeSign at h
  refine h_aload_n dX5_takeSign_0 rfl ?_
  refine h_iload_n dX5_takeSign_1 rfl ?_
  obtain ⟨y1, hh1, h⟩ := obd_some h
  refine h_cVi [.inl v1] (m_X5_isSign  hh1) cw_X5_172 dX5_takeSign_2 rfl ok_5 (by decide) rfl (Or.inr rfl) rfl ?_
  refine h_if_ne (tgt := 13) dX5_takeSign_5 (by decide) (fun q1 => ?_) (fun q1 => ?_)
  · rw [if_neg q1] at h
    exact h_mask [true, false] (b_X5_takeSign_13 X Q  h E)
  · rw [if_pos q1] at h
    refine h_aload_n dX5_takeSign_8 rfl ?_
    refine h_iconst (1 : Int32) dX5_takeSign_9 k_iconst_1 ?_
    obtain ⟨y2, hh2, h⟩ := obd_some h
    refine h_cVv [.inl (1 : Int32)] (m_X5_refuse  hh2) cw_X5_94 dX5_takeSign_10 rfl ok_5 (by decide) rfl (Or.inr rfl) rfl ?_
    exact h_mask [true, false] (b_X5_takeSign_13 X Q  h E)
theorem m_X5_takeSign {I : Mem} {P : PMem} {O : Nat → Int64} {D : Bool} {n : Nat} {v1 : Int32} {r : (Mem)}  (h : f_X5_takeSign I v1 = some r) : MethR yX5_takeSign cX5_takeSign 2 (none) 4 [.inr (.inr (5, 0, 0)), .inl v1] I P O D n none r P O D n := meth_R (Nat.le_refl _) (by decide) rfl (Nat.le_of_ble_eq_true rfl) rfl (fun X Q E => b_X5_takeSign X Q  h E)
def f_X5_readPart (rc : PMem → Mem → Int32 → Option (Mem))  (P : PMem) (I : Mem) (v1 : Int32) : Option (Mem) :=
  if (I 5 0 0 5) = (2 : Int32) then (gd (decide ((P 5 0 0 4) < 2)) <|
  (f_X5_takeNumber I (0 : Int32) (9999 : Int32)).bind fun y7 =>
  (f_X4_add (P 5 0 0 4) y7.2 y7.1).bind fun y8 =>
  some y8) else (if (I 5 0 0 5) = (1 : Int32) then ((f_X5_readValue P I).bind fun y6 =>
  some y6) else ((f_X5_isSign I (40 : Int32)).bind fun y1 =>
  if y1 = 0 then ((f_X5_refuse I (1 : Int32)).bind fun y2 =>
  some y2) else ((f_X5_advance I).bind fun y3 =>
  (rc P y3 (v1 + (1 : Int32))).bind fun y4 =>
  (f_X5_takeSign y4 (41 : Int32)).bind fun y5 =>
  some y5)))
theorem b_X5_readPart (X : CX) (Q : State → Prop) (rc : PMem → Mem → Int32 → Option (Mem)) (dr : Nat) (Hrc : ∀ {I : Mem} {P : PMem} {O : Nat → Int64} {D : Bool} {n : Nat} {v1 : Int32} {r : (Mem)}, rc P I v1 = some r → MethR yX5_readExpr cX5_readExpr 3 (none) dr [.inr (.inr (5, 0, 0)), .inl v1] I P O D n none r P O D n) {d : Nat} (hd : dr + 11 ≤ d) {I : Mem} {P : PMem} {O : Nat → Int64} {D : Bool} {n : Nat} {v1 : Int32} {r : (Mem)}  (h : f_X5_readPart rc P I v1 = some r) (E : EndR X cX5_readPart RX5 2 (none) d n none r P O D Q) : Here X cX5_readPart RX5 2 (none) d n 0 [some (.inr (.inr (5, 0, 0))), some (.inl v1)] [] I P O D n Q := by
  unfold f_X5_readPart at h
  refine h_aload_n dX5_readPart_0 rfl ?_
  refine g_X5_46  dX5_readPart_1 ?_
  refine h_iconst (2 : Int32) dX5_readPart_4 k_iconst_2 ?_
  refine h_icmp_ne (tgt := 29) dX5_readPart_5 (by decide) (fun q1 => ?_) (fun q1 => ?_)
  · rw [if_neg q1] at h
    refine h_aload_n dX5_readPart_29 rfl ?_
    refine g_X5_46  dX5_readPart_30 ?_
    refine h_iconst (1 : Int32) dX5_readPart_33 k_iconst_1 ?_
    refine h_icmp_ne (tgt := 44) dX5_readPart_34 (by decide) (fun q2 => ?_) (fun q2 => ?_)
    · rw [if_neg q2] at h
      refine h_aload_n dX5_readPart_44 rfl ?_
      refine h_bipush (40 : Int32) dX5_readPart_45 k_bipush_40 ?_
      obtain ⟨y1, hh1, h⟩ := obd_some h
      refine h_cVi [.inl (40 : Int32)] (m_X5_isSign  hh1) cw_X5_172 dX5_readPart_47 rfl ok_5 (by omega) rfl (Or.inr rfl) rfl ?_
      refine h_if_eq (tgt := 73) dX5_readPart_50 (by decide) (fun q3 => ?_) (fun q3 => ?_)
      · rw [if_pos q3] at h
        refine h_aload_n dX5_readPart_73 rfl ?_
        refine h_iconst (1 : Int32) dX5_readPart_74 k_iconst_1 ?_
        obtain ⟨y2, hh2, h⟩ := obd_some h
        refine h_cVv [.inl (1 : Int32)] (m_X5_refuse  hh2) cw_X5_94 dX5_readPart_75 rfl ok_5 (by omega) rfl (Or.inr rfl) rfl ?_
        cases h
        exact h_vret dX5_readPart_78 rfl E
      · rw [if_neg q3] at h
        refine h_aload_n dX5_readPart_53 rfl ?_
        obtain ⟨y3, hh3, h⟩ := obd_some h
        refine h_cVv [] (m_X5_advance  hh3) cw_X5_43 dX5_readPart_54 rfl ok_5 (by omega) rfl (Or.inr rfl) rfl ?_
        refine h_aload_n dX5_readPart_57 rfl ?_
        refine h_iload_n dX5_readPart_58 rfl ?_
        refine h_iconst (1 : Int32) dX5_readPart_59 k_iconst_1 ?_
        refine h_iadd dX5_readPart_60 ?_
        obtain ⟨y4, hh4, h⟩ := obd_some h
        refine h_cVv [.inl (v1 + (1 : Int32))] (Hrc  hh4) cw_X5_169 dX5_readPart_61 rfl ok_5 (by omega) rfl (Or.inr rfl) rfl ?_
        refine h_aload_n dX5_readPart_64 rfl ?_
        refine h_bipush (41 : Int32) dX5_readPart_65 k_bipush_41 ?_
        obtain ⟨y5, hh5, h⟩ := obd_some h
        refine h_cVv [.inl (41 : Int32)] (m_X5_takeSign  hh5) cw_X5_97 dX5_readPart_67 rfl ok_5 (by omega) rfl (Or.inr rfl) rfl ?_
        refine h_goto (tgt := 78) dX5_readPart_70 (by decide) ?_
        cases h
        exact h_vret dX5_readPart_78 rfl E
    · rw [if_pos q2] at h
      refine h_aload_n dX5_readPart_37 rfl ?_
      obtain ⟨y6, hh6, h⟩ := obd_some h
      refine h_cVv [] (m_X5_readValue  hh6) cw_X5_203 dX5_readPart_38 rfl ok_5 (by omega) rfl (Or.inr rfl) rfl ?_
      refine h_goto (tgt := 78) dX5_readPart_41 (by decide) ?_
      cases h
      exact h_vret dX5_readPart_78 rfl E
  · rw [if_pos q1] at h
    refine h_aload_n dX5_readPart_8 rfl ?_
    refine g_X5_19  dX5_readPart_9 ?_
    obtain ⟨g1, h⟩ := gd_some h
    have w1 := of_decide_eq_true g1
    refine g_X5_160 (by omega) dX5_readPart_12 ?_
    refine h_aload_n dX5_readPart_15 rfl ?_
    refine h_iconst (0 : Int32) dX5_readPart_16 k_iconst_0 ?_
    refine h_sipush (9999 : Int32) dX5_readPart_17 k_sipush_9999 ?_
    obtain ⟨y7, hh7, h⟩ := obd_some h
    refine h_cVi [.inl (0 : Int32), .inl (9999 : Int32)] (m_X5_takeNumber  hh7) cw_X5_120 dX5_readPart_20 rfl ok_5 (by omega) rfl (Or.inr rfl) rfl ?_
    obtain ⟨y8, hh8, h⟩ := obd_some h
    refine h_cVv [.inl y7.1] (m_X4_add (by omega) hh8) cw_X5_181 dX5_readPart_23 rfl (ok_4 (by omega)) (by omega) rfl (Or.inr rfl) rfl ?_
    refine h_goto (tgt := 78) dX5_readPart_26 (by decide) ?_
    cases h
    exact h_vret dX5_readPart_78 rfl E
theorem m_X5_readPart (rc : PMem → Mem → Int32 → Option (Mem)) (dr : Nat) (Hrc : ∀ {I : Mem} {P : PMem} {O : Nat → Int64} {D : Bool} {n : Nat} {v1 : Int32} {r : (Mem)}, rc P I v1 = some r → MethR yX5_readExpr cX5_readExpr 3 (none) dr [.inr (.inr (5, 0, 0)), .inl v1] I P O D n none r P O D n) {d : Nat} (hd : dr + 11 ≤ d) {I : Mem} {P : PMem} {O : Nat → Int64} {D : Bool} {n : Nat} {v1 : Int32} {r : (Mem)}  (h : f_X5_readPart rc P I v1 = some r) : MethR yX5_readPart cX5_readPart 2 (none) d [.inr (.inr (5, 0, 0)), .inl v1] I P O D n none r P O D n := meth_R (Nat.le_refl _) (by decide) rfl (Nat.le_of_ble_eq_true rfl) rfl (fun X Q E => b_X5_readPart X Q rc dr Hrc hd  h E)
def f_X5_readProduct_50 (rc : PMem → Mem → Int32 → Option (Mem)) (k7 : Mem → Int32 → Int32 → Option (Mem)) (P : PMem) (I : Mem) (v1 : Int32) (v2 : Int32) (s0 : Int32) : Option (Mem) :=
  (f_X5_advance I).bind fun y1 =>
  (f_X5_readPart rc P y1 v1).bind fun y2 =>
  gd (decide ((P 5 0 0 4) < 2)) <|
  (f_X4_add (P 5 0 0 4) y2 s0).bind fun y3 =>
  k7 y3 v1 (v2 + (1 : Int32))
theorem b_X5_readProduct_50 (X : CX) (Q : State → Prop) (rc : PMem → Mem → Int32 → Option (Mem)) (dr : Nat) (Hrc : ∀ {I : Mem} {P : PMem} {O : Nat → Int64} {D : Bool} {n : Nat} {v1 : Int32} {r : (Mem)}, rc P I v1 = some r → MethR yX5_readExpr cX5_readExpr 3 (none) dr [.inr (.inr (5, 0, 0)), .inl v1] I P O D n none r P O D n) {d : Nat} (hd : dr + 12 ≤ d) {I : Mem} {P : PMem} {O : Nat → Int64} {D : Bool} {n : Nat} {k7 : Mem → Int32 → Int32 → Option (Mem)} {v1 : Int32} {v2 : Int32} {s0 : Int32} {r : (Mem)}  (H7 : ∀ (I : Mem) (v1 : Int32) (v2 : Int32), k7 I v1 v2 = some r → Here X cX5_readProduct RX5 4 (none) d n 7 [some (.inr (.inr (5, 0, 0))), some (.inl v1), some (.inl v2), none] [] I P O D n Q) (h : f_X5_readProduct_50 rc k7 P I v1 v2 s0 = some r) (E : EndR X cX5_readProduct RX5 4 (none) d n none r P O D Q) : Here X cX5_readProduct RX5 4 (none) d n 50 [some (.inr (.inr (5, 0, 0))), some (.inl v1), some (.inl v2), none] [.inl s0] I P O D n Q := by
  unfold f_X5_readProduct_50 at h
  refine h_istore_n dX5_readProduct_50 (by decide) rfl ?_
  refine h_aload_n dX5_readProduct_51 rfl ?_
  obtain ⟨y1, hh1, h⟩ := obd_some h
  refine h_cVv [] (m_X5_advance  hh1) cw_X5_43 dX5_readProduct_52 rfl ok_5 (by omega) rfl (Or.inr rfl) rfl ?_
  refine h_aload_n dX5_readProduct_55 rfl ?_
  refine h_iload_n dX5_readProduct_56 rfl ?_
  obtain ⟨y2, hh2, h⟩ := obd_some h
  refine h_cVv [.inl v1] (m_X5_readPart (d := d - 1) rc dr Hrc (by omega)  hh2) cw_X5_200 dX5_readProduct_57 rfl ok_5 (by omega) rfl (Or.inr rfl) rfl ?_
  refine h_aload_n dX5_readProduct_60 rfl ?_
  refine g_X5_19  dX5_readProduct_61 ?_
  obtain ⟨g1, h⟩ := gd_some h
  have w1 := of_decide_eq_true g1
  refine g_X5_160 (by omega) dX5_readProduct_64 ?_
  refine h_iload_n dX5_readProduct_67 rfl ?_
  obtain ⟨y3, hh3, h⟩ := obd_some h
  refine h_cVv [.inl s0] (m_X4_add (by omega) hh3) cw_X5_181 dX5_readProduct_68 rfl (ok_4 (by omega)) (by omega) rfl (Or.inr rfl) rfl ?_
  refine h_iinc (1 : Int32) dX5_readProduct_71 rfl k_iinc_1 (by decide) rfl ?_
  refine h_goto (tgt := 7) dX5_readProduct_74 (by decide) ?_
  exact h_mask [true, true, true, false] (H7 _ _ _ h)
def f_X5_readProduct_32 (rc : PMem → Mem → Int32 → Option (Mem)) (k7 : Mem → Int32 → Int32 → Option (Mem)) (P : PMem) (I : Mem) (v1 : Int32) (v2 : Int32) : Option (Mem) :=
  (f_X5_isSign I (42 : Int32)).bind fun y1 =>
  if y1 = 0 then (f_X5_readProduct_50 rc k7 P I v1 v2 (10013 : Int32)) else (f_X5_readProduct_50 rc k7 P I v1 v2 (10012 : Int32))
theorem b_X5_readProduct_32 (X : CX) (Q : State → Prop) (rc : PMem → Mem → Int32 → Option (Mem)) (dr : Nat) (Hrc : ∀ {I : Mem} {P : PMem} {O : Nat → Int64} {D : Bool} {n : Nat} {v1 : Int32} {r : (Mem)}, rc P I v1 = some r → MethR yX5_readExpr cX5_readExpr 3 (none) dr [.inr (.inr (5, 0, 0)), .inl v1] I P O D n none r P O D n) {d : Nat} (hd : dr + 12 ≤ d) {I : Mem} {P : PMem} {O : Nat → Int64} {D : Bool} {n : Nat} {k7 : Mem → Int32 → Int32 → Option (Mem)} {v1 : Int32} {v2 : Int32} {r : (Mem)}  (H7 : ∀ (I : Mem) (v1 : Int32) (v2 : Int32), k7 I v1 v2 = some r → Here X cX5_readProduct RX5 4 (none) d n 7 [some (.inr (.inr (5, 0, 0))), some (.inl v1), some (.inl v2), none] [] I P O D n Q) (h : f_X5_readProduct_32 rc k7 P I v1 v2 = some r) (E : EndR X cX5_readProduct RX5 4 (none) d n none r P O D Q) : Here X cX5_readProduct RX5 4 (none) d n 32 [some (.inr (.inr (5, 0, 0))), some (.inl v1), some (.inl v2), none] [] I P O D n Q := by
  unfold f_X5_readProduct_32 at h
  refine h_aload_n dX5_readProduct_32 rfl ?_
  refine h_bipush (42 : Int32) dX5_readProduct_33 k_bipush_42 ?_
  obtain ⟨y1, hh1, h⟩ := obd_some h
  refine h_cVi [.inl (42 : Int32)] (m_X5_isSign  hh1) cw_X5_172 dX5_readProduct_35 rfl ok_5 (by omega) rfl (Or.inr rfl) rfl ?_
  refine h_if_eq (tgt := 47) dX5_readProduct_38 (by decide) (fun q1 => ?_) (fun q1 => ?_)
  · rw [if_pos q1] at h
    refine h_sipush (10013 : Int32) dX5_readProduct_47 k_sipush_10013 ?_
    exact (b_X5_readProduct_50 X Q rc dr Hrc hd H7  h E)
  · rw [if_neg q1] at h
    refine h_sipush (10012 : Int32) dX5_readProduct_41 k_sipush_10012 ?_
    refine h_goto (tgt := 50) dX5_readProduct_44 (by decide) ?_
    exact (b_X5_readProduct_50 X Q rc dr Hrc hd H7  h E)
def f_X5_readProduct_7 (rc : PMem → Mem → Int32 → Option (Mem))  (P : PMem) : Nat → Mem → Int32 → Int32 → Option (Mem)
  | 0, _, _, _ => none
  | fu + 1, I, v1, v2 =>
    if (600 : Int32) ≤ v2 then (some I) else ((f_X5_isSign I (42 : Int32)).bind fun y1 =>
    if y1 = 0 then ((f_X5_isSign I (47 : Int32)).bind fun y2 =>
    if y2 = 0 then (some I) else (f_X5_readProduct_32 rc (f_X5_readProduct_7 rc P fu) P I v1 v2)) else (f_X5_readProduct_32 rc (f_X5_readProduct_7 rc P fu) P I v1 v2))
theorem b_X5_readProduct_7 (X : CX) (Q : State → Prop) (rc : PMem → Mem → Int32 → Option (Mem)) (dr : Nat) (Hrc : ∀ {I : Mem} {P : PMem} {O : Nat → Int64} {D : Bool} {n : Nat} {v1 : Int32} {r : (Mem)}, rc P I v1 = some r → MethR yX5_readExpr cX5_readExpr 3 (none) dr [.inr (.inr (5, 0, 0)), .inl v1] I P O D n none r P O D n) {d : Nat} (hd : dr + 12 ≤ d) {P : PMem} {O : Nat → Int64} {D : Bool} {n : Nat} {r : (Mem)}  : ∀ (fu : Nat) {I : Mem} {v1 : Int32} {v2 : Int32}, f_X5_readProduct_7 rc P fu I v1 v2 = some r → EndR X cX5_readProduct RX5 4 (none) d n none r P O D Q → Here X cX5_readProduct RX5 4 (none) d n 7 [some (.inr (.inr (5, 0, 0))), some (.inl v1), some (.inl v2), none] [] I P O D n Q := by
  intro fu
  induction fu with
  | zero => intro I v1 v2 h E; cases h
  | succ fu ih =>
  intro I v1 v2 h E
  have H7 : ∀ (I : Mem) (v1 : Int32) (v2 : Int32), f_X5_readProduct_7 rc P fu I v1 v2 = some r → Here X cX5_readProduct RX5 4 (none) d n 7 [some (.inr (.inr (5, 0, 0))), some (.inl v1), some (.inl v2), none] [] I P O D n Q := fun _ _ _ b => ih b E
  simp only [f_X5_readProduct_7] at h
  refine h_iload_n dX5_readProduct_7 rfl ?_
  refine h_sipush (600 : Int32) dX5_readProduct_8 k_sipush_600 ?_
  refine h_icmp_ge (tgt := 77) dX5_readProduct_11 (by decide) (fun q1 => ?_) (fun q1 => ?_)
  · rw [if_pos q1] at h
    cases h
    exact h_vret dX5_readProduct_77 rfl E
  · rw [if_neg q1] at h
    refine h_aload_n dX5_readProduct_14 rfl ?_
    refine h_bipush (42 : Int32) dX5_readProduct_15 k_bipush_42 ?_
    obtain ⟨y1, hh1, h⟩ := obd_some h
    refine h_cVi [.inl (42 : Int32)] (m_X5_isSign  hh1) cw_X5_172 dX5_readProduct_17 rfl ok_5 (by omega) rfl (Or.inr rfl) rfl ?_
    refine h_if_ne (tgt := 32) dX5_readProduct_20 (by decide) (fun q2 => ?_) (fun q2 => ?_)
    · rw [if_neg q2] at h
      exact (b_X5_readProduct_32 X Q rc dr Hrc hd H7  h E)
    · rw [if_pos q2] at h
      refine h_aload_n dX5_readProduct_23 rfl ?_
      refine h_bipush (47 : Int32) dX5_readProduct_24 k_bipush_47 ?_
      obtain ⟨y2, hh2, h⟩ := obd_some h
      refine h_cVi [.inl (47 : Int32)] (m_X5_isSign  hh2) cw_X5_172 dX5_readProduct_26 rfl ok_5 (by omega) rfl (Or.inr rfl) rfl ?_
      refine h_if_eq (tgt := 77) dX5_readProduct_29 (by decide) (fun q3 => ?_) (fun q3 => ?_)
      · rw [if_pos q3] at h
        cases h
        exact h_vret dX5_readProduct_77 rfl E
      · rw [if_neg q3] at h
        exact (b_X5_readProduct_32 X Q rc dr Hrc hd H7  h E)
def f_X5_readProduct (rc : PMem → Mem → Int32 → Option (Mem))  (P : PMem) (I : Mem) (v1 : Int32) : Option (Mem) :=
  (f_X5_readPart rc P I v1).bind fun y1 =>
  f_X5_readProduct_7 rc P FU y1 v1 (0 : Int32)
theorem b_X5_readProduct (X : CX) (Q : State → Prop) (rc : PMem → Mem → Int32 → Option (Mem)) (dr : Nat) (Hrc : ∀ {I : Mem} {P : PMem} {O : Nat → Int64} {D : Bool} {n : Nat} {v1 : Int32} {r : (Mem)}, rc P I v1 = some r → MethR yX5_readExpr cX5_readExpr 3 (none) dr [.inr (.inr (5, 0, 0)), .inl v1] I P O D n none r P O D n) {d : Nat} (hd : dr + 12 ≤ d) {I : Mem} {P : PMem} {O : Nat → Int64} {D : Bool} {n : Nat} {v1 : Int32} {r : (Mem)}  (h : f_X5_readProduct rc P I v1 = some r) (E : EndR X cX5_readProduct RX5 4 (none) d n none r P O D Q) : Here X cX5_readProduct RX5 4 (none) d n 0 [some (.inr (.inr (5, 0, 0))), some (.inl v1), none, none] [] I P O D n Q := by
  unfold f_X5_readProduct at h
  refine h_aload_n dX5_readProduct_0 rfl ?_
  refine h_iload_n dX5_readProduct_1 rfl ?_
  obtain ⟨y1, hh1, h⟩ := obd_some h
  refine h_cVv [.inl v1] (m_X5_readPart (d := d - 1) rc dr Hrc (by omega)  hh1) cw_X5_200 dX5_readProduct_2 rfl ok_5 (by omega) rfl (Or.inr rfl) rfl ?_
  refine h_iconst (0 : Int32) dX5_readProduct_5 k_iconst_0 ?_
  refine h_istore_n dX5_readProduct_6 (by decide) rfl ?_
  exact (b_X5_readProduct_7 X Q rc dr Hrc hd FU  h E)
theorem m_X5_readProduct (rc : PMem → Mem → Int32 → Option (Mem)) (dr : Nat) (Hrc : ∀ {I : Mem} {P : PMem} {O : Nat → Int64} {D : Bool} {n : Nat} {v1 : Int32} {r : (Mem)}, rc P I v1 = some r → MethR yX5_readExpr cX5_readExpr 3 (none) dr [.inr (.inr (5, 0, 0)), .inl v1] I P O D n none r P O D n) {d : Nat} (hd : dr + 12 ≤ d) {I : Mem} {P : PMem} {O : Nat → Int64} {D : Bool} {n : Nat} {v1 : Int32} {r : (Mem)}  (h : f_X5_readProduct rc P I v1 = some r) : MethR yX5_readProduct cX5_readProduct 4 (none) d [.inr (.inr (5, 0, 0)), .inl v1] I P O D n none r P O D n := meth_R (Nat.le_refl _) (by decide) rfl (Nat.le_of_ble_eq_true rfl) rfl (fun X Q E => b_X5_readProduct X Q rc dr Hrc hd  h E)
def f_X5_readSum_50 (rc : PMem → Mem → Int32 → Option (Mem)) (k7 : Mem → Int32 → Int32 → Option (Mem)) (P : PMem) (I : Mem) (v1 : Int32) (v2 : Int32) (s0 : Int32) : Option (Mem) :=
  (f_X5_advance I).bind fun y1 =>
  (f_X5_readProduct rc P y1 v1).bind fun y2 =>
  gd (decide ((P 5 0 0 4) < 2)) <|
  (f_X4_add (P 5 0 0 4) y2 s0).bind fun y3 =>
  k7 y3 v1 (v2 + (1 : Int32))
theorem b_X5_readSum_50 (X : CX) (Q : State → Prop) (rc : PMem → Mem → Int32 → Option (Mem)) (dr : Nat) (Hrc : ∀ {I : Mem} {P : PMem} {O : Nat → Int64} {D : Bool} {n : Nat} {v1 : Int32} {r : (Mem)}, rc P I v1 = some r → MethR yX5_readExpr cX5_readExpr 3 (none) dr [.inr (.inr (5, 0, 0)), .inl v1] I P O D n none r P O D n) {d : Nat} (hd : dr + 13 ≤ d) {I : Mem} {P : PMem} {O : Nat → Int64} {D : Bool} {n : Nat} {k7 : Mem → Int32 → Int32 → Option (Mem)} {v1 : Int32} {v2 : Int32} {s0 : Int32} {r : (Mem)}  (H7 : ∀ (I : Mem) (v1 : Int32) (v2 : Int32), k7 I v1 v2 = some r → Here X cX5_readSum RX5 4 (none) d n 7 [some (.inr (.inr (5, 0, 0))), some (.inl v1), some (.inl v2), none] [] I P O D n Q) (h : f_X5_readSum_50 rc k7 P I v1 v2 s0 = some r) (E : EndR X cX5_readSum RX5 4 (none) d n none r P O D Q) : Here X cX5_readSum RX5 4 (none) d n 50 [some (.inr (.inr (5, 0, 0))), some (.inl v1), some (.inl v2), none] [.inl s0] I P O D n Q := by
  unfold f_X5_readSum_50 at h
  refine h_istore_n dX5_readSum_50 (by decide) rfl ?_
  refine h_aload_n dX5_readSum_51 rfl ?_
  obtain ⟨y1, hh1, h⟩ := obd_some h
  refine h_cVv [] (m_X5_advance  hh1) cw_X5_43 dX5_readSum_52 rfl ok_5 (by omega) rfl (Or.inr rfl) rfl ?_
  refine h_aload_n dX5_readSum_55 rfl ?_
  refine h_iload_n dX5_readSum_56 rfl ?_
  obtain ⟨y2, hh2, h⟩ := obd_some h
  refine h_cVv [.inl v1] (m_X5_readProduct (d := d - 1) rc dr Hrc (by omega)  hh2) cw_X5_197 dX5_readSum_57 rfl ok_5 (by omega) rfl (Or.inr rfl) rfl ?_
  refine h_aload_n dX5_readSum_60 rfl ?_
  refine g_X5_19  dX5_readSum_61 ?_
  obtain ⟨g1, h⟩ := gd_some h
  have w1 := of_decide_eq_true g1
  refine g_X5_160 (by omega) dX5_readSum_64 ?_
  refine h_iload_n dX5_readSum_67 rfl ?_
  obtain ⟨y3, hh3, h⟩ := obd_some h
  refine h_cVv [.inl s0] (m_X4_add (by omega) hh3) cw_X5_181 dX5_readSum_68 rfl (ok_4 (by omega)) (by omega) rfl (Or.inr rfl) rfl ?_
  refine h_iinc (1 : Int32) dX5_readSum_71 rfl k_iinc_1 (by decide) rfl ?_
  refine h_goto (tgt := 7) dX5_readSum_74 (by decide) ?_
  exact h_mask [true, true, true, false] (H7 _ _ _ h)
def f_X5_readSum_32 (rc : PMem → Mem → Int32 → Option (Mem)) (k7 : Mem → Int32 → Int32 → Option (Mem)) (P : PMem) (I : Mem) (v1 : Int32) (v2 : Int32) : Option (Mem) :=
  (f_X5_isSign I (43 : Int32)).bind fun y1 =>
  if y1 = 0 then (f_X5_readSum_50 rc k7 P I v1 v2 (10011 : Int32)) else (f_X5_readSum_50 rc k7 P I v1 v2 (10010 : Int32))
theorem b_X5_readSum_32 (X : CX) (Q : State → Prop) (rc : PMem → Mem → Int32 → Option (Mem)) (dr : Nat) (Hrc : ∀ {I : Mem} {P : PMem} {O : Nat → Int64} {D : Bool} {n : Nat} {v1 : Int32} {r : (Mem)}, rc P I v1 = some r → MethR yX5_readExpr cX5_readExpr 3 (none) dr [.inr (.inr (5, 0, 0)), .inl v1] I P O D n none r P O D n) {d : Nat} (hd : dr + 13 ≤ d) {I : Mem} {P : PMem} {O : Nat → Int64} {D : Bool} {n : Nat} {k7 : Mem → Int32 → Int32 → Option (Mem)} {v1 : Int32} {v2 : Int32} {r : (Mem)}  (H7 : ∀ (I : Mem) (v1 : Int32) (v2 : Int32), k7 I v1 v2 = some r → Here X cX5_readSum RX5 4 (none) d n 7 [some (.inr (.inr (5, 0, 0))), some (.inl v1), some (.inl v2), none] [] I P O D n Q) (h : f_X5_readSum_32 rc k7 P I v1 v2 = some r) (E : EndR X cX5_readSum RX5 4 (none) d n none r P O D Q) : Here X cX5_readSum RX5 4 (none) d n 32 [some (.inr (.inr (5, 0, 0))), some (.inl v1), some (.inl v2), none] [] I P O D n Q := by
  unfold f_X5_readSum_32 at h
  refine h_aload_n dX5_readSum_32 rfl ?_
  refine h_bipush (43 : Int32) dX5_readSum_33 k_bipush_43 ?_
  obtain ⟨y1, hh1, h⟩ := obd_some h
  refine h_cVi [.inl (43 : Int32)] (m_X5_isSign  hh1) cw_X5_172 dX5_readSum_35 rfl ok_5 (by omega) rfl (Or.inr rfl) rfl ?_
  refine h_if_eq (tgt := 47) dX5_readSum_38 (by decide) (fun q1 => ?_) (fun q1 => ?_)
  · rw [if_pos q1] at h
    refine h_sipush (10011 : Int32) dX5_readSum_47 k_sipush_10011 ?_
    exact (b_X5_readSum_50 X Q rc dr Hrc hd H7  h E)
  · rw [if_neg q1] at h
    refine h_sipush (10010 : Int32) dX5_readSum_41 k_sipush_10010 ?_
    refine h_goto (tgt := 50) dX5_readSum_44 (by decide) ?_
    exact (b_X5_readSum_50 X Q rc dr Hrc hd H7  h E)
def f_X5_readSum_7 (rc : PMem → Mem → Int32 → Option (Mem))  (P : PMem) : Nat → Mem → Int32 → Int32 → Option (Mem)
  | 0, _, _, _ => none
  | fu + 1, I, v1, v2 =>
    if (600 : Int32) ≤ v2 then (some I) else ((f_X5_isSign I (43 : Int32)).bind fun y1 =>
    if y1 = 0 then ((f_X5_isSign I (45 : Int32)).bind fun y2 =>
    if y2 = 0 then (some I) else (f_X5_readSum_32 rc (f_X5_readSum_7 rc P fu) P I v1 v2)) else (f_X5_readSum_32 rc (f_X5_readSum_7 rc P fu) P I v1 v2))
theorem b_X5_readSum_7 (X : CX) (Q : State → Prop) (rc : PMem → Mem → Int32 → Option (Mem)) (dr : Nat) (Hrc : ∀ {I : Mem} {P : PMem} {O : Nat → Int64} {D : Bool} {n : Nat} {v1 : Int32} {r : (Mem)}, rc P I v1 = some r → MethR yX5_readExpr cX5_readExpr 3 (none) dr [.inr (.inr (5, 0, 0)), .inl v1] I P O D n none r P O D n) {d : Nat} (hd : dr + 13 ≤ d) {P : PMem} {O : Nat → Int64} {D : Bool} {n : Nat} {r : (Mem)}  : ∀ (fu : Nat) {I : Mem} {v1 : Int32} {v2 : Int32}, f_X5_readSum_7 rc P fu I v1 v2 = some r → EndR X cX5_readSum RX5 4 (none) d n none r P O D Q → Here X cX5_readSum RX5 4 (none) d n 7 [some (.inr (.inr (5, 0, 0))), some (.inl v1), some (.inl v2), none] [] I P O D n Q := by
  intro fu
  induction fu with
  | zero => intro I v1 v2 h E; cases h
  | succ fu ih =>
  intro I v1 v2 h E
  have H7 : ∀ (I : Mem) (v1 : Int32) (v2 : Int32), f_X5_readSum_7 rc P fu I v1 v2 = some r → Here X cX5_readSum RX5 4 (none) d n 7 [some (.inr (.inr (5, 0, 0))), some (.inl v1), some (.inl v2), none] [] I P O D n Q := fun _ _ _ b => ih b E
  simp only [f_X5_readSum_7] at h
  refine h_iload_n dX5_readSum_7 rfl ?_
  refine h_sipush (600 : Int32) dX5_readSum_8 k_sipush_600 ?_
  refine h_icmp_ge (tgt := 77) dX5_readSum_11 (by decide) (fun q1 => ?_) (fun q1 => ?_)
  · rw [if_pos q1] at h
    cases h
    exact h_vret dX5_readSum_77 rfl E
  · rw [if_neg q1] at h
    refine h_aload_n dX5_readSum_14 rfl ?_
    refine h_bipush (43 : Int32) dX5_readSum_15 k_bipush_43 ?_
    obtain ⟨y1, hh1, h⟩ := obd_some h
    refine h_cVi [.inl (43 : Int32)] (m_X5_isSign  hh1) cw_X5_172 dX5_readSum_17 rfl ok_5 (by omega) rfl (Or.inr rfl) rfl ?_
    refine h_if_ne (tgt := 32) dX5_readSum_20 (by decide) (fun q2 => ?_) (fun q2 => ?_)
    · rw [if_neg q2] at h
      exact (b_X5_readSum_32 X Q rc dr Hrc hd H7  h E)
    · rw [if_pos q2] at h
      refine h_aload_n dX5_readSum_23 rfl ?_
      refine h_bipush (45 : Int32) dX5_readSum_24 k_bipush_45 ?_
      obtain ⟨y2, hh2, h⟩ := obd_some h
      refine h_cVi [.inl (45 : Int32)] (m_X5_isSign  hh2) cw_X5_172 dX5_readSum_26 rfl ok_5 (by omega) rfl (Or.inr rfl) rfl ?_
      refine h_if_eq (tgt := 77) dX5_readSum_29 (by decide) (fun q3 => ?_) (fun q3 => ?_)
      · rw [if_pos q3] at h
        cases h
        exact h_vret dX5_readSum_77 rfl E
      · rw [if_neg q3] at h
        exact (b_X5_readSum_32 X Q rc dr Hrc hd H7  h E)
def f_X5_readSum (rc : PMem → Mem → Int32 → Option (Mem))  (P : PMem) (I : Mem) (v1 : Int32) : Option (Mem) :=
  (f_X5_readProduct rc P I v1).bind fun y1 =>
  f_X5_readSum_7 rc P FU y1 v1 (0 : Int32)
theorem b_X5_readSum (X : CX) (Q : State → Prop) (rc : PMem → Mem → Int32 → Option (Mem)) (dr : Nat) (Hrc : ∀ {I : Mem} {P : PMem} {O : Nat → Int64} {D : Bool} {n : Nat} {v1 : Int32} {r : (Mem)}, rc P I v1 = some r → MethR yX5_readExpr cX5_readExpr 3 (none) dr [.inr (.inr (5, 0, 0)), .inl v1] I P O D n none r P O D n) {d : Nat} (hd : dr + 13 ≤ d) {I : Mem} {P : PMem} {O : Nat → Int64} {D : Bool} {n : Nat} {v1 : Int32} {r : (Mem)}  (h : f_X5_readSum rc P I v1 = some r) (E : EndR X cX5_readSum RX5 4 (none) d n none r P O D Q) : Here X cX5_readSum RX5 4 (none) d n 0 [some (.inr (.inr (5, 0, 0))), some (.inl v1), none, none] [] I P O D n Q := by
  unfold f_X5_readSum at h
  refine h_aload_n dX5_readSum_0 rfl ?_
  refine h_iload_n dX5_readSum_1 rfl ?_
  obtain ⟨y1, hh1, h⟩ := obd_some h
  refine h_cVv [.inl v1] (m_X5_readProduct (d := d - 1) rc dr Hrc (by omega)  hh1) cw_X5_197 dX5_readSum_2 rfl ok_5 (by omega) rfl (Or.inr rfl) rfl ?_
  refine h_iconst (0 : Int32) dX5_readSum_5 k_iconst_0 ?_
  refine h_istore_n dX5_readSum_6 (by decide) rfl ?_
  exact (b_X5_readSum_7 X Q rc dr Hrc hd FU  h E)
theorem m_X5_readSum (rc : PMem → Mem → Int32 → Option (Mem)) (dr : Nat) (Hrc : ∀ {I : Mem} {P : PMem} {O : Nat → Int64} {D : Bool} {n : Nat} {v1 : Int32} {r : (Mem)}, rc P I v1 = some r → MethR yX5_readExpr cX5_readExpr 3 (none) dr [.inr (.inr (5, 0, 0)), .inl v1] I P O D n none r P O D n) {d : Nat} (hd : dr + 13 ≤ d) {I : Mem} {P : PMem} {O : Nat → Int64} {D : Bool} {n : Nat} {v1 : Int32} {r : (Mem)}  (h : f_X5_readSum rc P I v1 = some r) : MethR yX5_readSum cX5_readSum 4 (none) d [.inr (.inr (5, 0, 0)), .inl v1] I P O D n none r P O D n := meth_R (Nat.le_refl _) (by decide) rfl (Nat.le_of_ble_eq_true rfl) rfl (fun X Q E => b_X5_readSum X Q rc dr Hrc hd  h E)
