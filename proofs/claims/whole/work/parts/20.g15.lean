theorem dX8_isMeeting_0 : decode cX8_isMeeting 0 = .ok (.iload_n 1, 1) := by decide +kernel
theorem dX8_isMeeting_1 : decode cX8_isMeeting 1 = .ok (.iload_n 2, 1) := by decide +kernel
theorem dX8_isMeeting_2 : decode cX8_isMeeting 2 = .ok (.if_icmp .ne 17, 3) := by decide +kernel
theorem dX8_isMeeting_5 : decode cX8_isMeeting 5 = .ok (.aload_n 0, 1) := by decide +kernel
theorem dX8_isMeeting_6 : decode cX8_isMeeting 6 = .ok (.getfield 311, 3) := by decide +kernel
theorem dX8_isMeeting_9 : decode cX8_isMeeting 9 = .ok (.iload_n 1, 1) := by decide +kernel
theorem dX8_isMeeting_10 : decode cX8_isMeeting 10 = .ok (.ishr, 1) := by decide +kernel
theorem dX8_isMeeting_11 : decode cX8_isMeeting 11 = .ok (.iconst 1, 1) := by decide +kernel
theorem dX8_isMeeting_12 : decode cX8_isMeeting 12 = .ok (.iand, 1) := by decide +kernel
theorem dX8_isMeeting_13 : decode cX8_isMeeting 13 = .ok (.iconst 1, 1) := by decide +kernel
theorem dX8_isMeeting_14 : decode cX8_isMeeting 14 = .ok (.if_icmp .ne 5, 3) := by decide +kernel
theorem dX8_isMeeting_17 : decode cX8_isMeeting 17 = .ok (.iconst 1, 1) := by decide +kernel
theorem dX8_isMeeting_18 : decode cX8_isMeeting 18 = .ok (.ireturn, 1) := by decide +kernel
theorem dX8_isMeeting_19 : decode cX8_isMeeting 19 = .ok (.iconst 0, 1) := by decide +kernel
theorem dX8_isMeeting_20 : decode cX8_isMeeting 20 = .ok (.istore 4, 2) := by decide +kernel
theorem dX8_isMeeting_22 : decode cX8_isMeeting 22 = .ok (.iload 4, 2) := by decide +kernel
theorem dX8_isMeeting_24 : decode cX8_isMeeting 24 = .ok (.aload_n 0, 1) := by decide +kernel
theorem dX8_isMeeting_25 : decode cX8_isMeeting 25 = .ok (.getfield 320, 3) := by decide +kernel
theorem dX8_isMeeting_28 : decode cX8_isMeeting 28 = .ok (.if_icmp .ge 82, 3) := by decide +kernel
theorem dX8_isMeeting_31 : decode cX8_isMeeting 31 = .ok (.aload_n 0, 1) := by decide +kernel
theorem dX8_isMeeting_32 : decode cX8_isMeeting 32 = .ok (.getfield 79, 3) := by decide +kernel
theorem dX8_isMeeting_35 : decode cX8_isMeeting 35 = .ok (.iconst 3, 1) := by decide +kernel
theorem dX8_isMeeting_36 : decode cX8_isMeeting 36 = .ok (.iload 4, 2) := by decide +kernel
theorem dX8_isMeeting_38 : decode cX8_isMeeting 38 = .ok (.imul, 1) := by decide +kernel
theorem dX8_isMeeting_39 : decode cX8_isMeeting 39 = .ok (.iaload, 1) := by decide +kernel
theorem dX8_isMeeting_40 : decode cX8_isMeeting 40 = .ok (.istore 5, 2) := by decide +kernel
theorem dX8_isMeeting_42 : decode cX8_isMeeting 42 = .ok (.aload_n 0, 1) := by decide +kernel
theorem dX8_isMeeting_43 : decode cX8_isMeeting 43 = .ok (.getfield 79, 3) := by decide +kernel
theorem dX8_isMeeting_46 : decode cX8_isMeeting 46 = .ok (.iconst 3, 1) := by decide +kernel
theorem dX8_isMeeting_47 : decode cX8_isMeeting 47 = .ok (.iload 4, 2) := by decide +kernel
theorem dX8_isMeeting_49 : decode cX8_isMeeting 49 = .ok (.imul, 1) := by decide +kernel
theorem dX8_isMeeting_50 : decode cX8_isMeeting 50 = .ok (.iconst 2, 1) := by decide +kernel
theorem dX8_isMeeting_51 : decode cX8_isMeeting 51 = .ok (.iadd, 1) := by decide +kernel
theorem dX8_isMeeting_52 : decode cX8_isMeeting 52 = .ok (.iaload, 1) := by decide +kernel
theorem dX8_isMeeting_53 : decode cX8_isMeeting 53 = .ok (.istore 6, 2) := by decide +kernel
theorem dX8_isMeeting_55 : decode cX8_isMeeting 55 = .ok (.aload_n 0, 1) := by decide +kernel
theorem dX8_isMeeting_56 : decode cX8_isMeeting 56 = .ok (.getfield 79, 3) := by decide +kernel
theorem dX8_isMeeting_59 : decode cX8_isMeeting 59 = .ok (.iconst 3, 1) := by decide +kernel
theorem dX8_isMeeting_60 : decode cX8_isMeeting 60 = .ok (.iload 4, 2) := by decide +kernel
theorem dX8_isMeeting_62 : decode cX8_isMeeting 62 = .ok (.imul, 1) := by decide +kernel
theorem dX8_isMeeting_63 : decode cX8_isMeeting 63 = .ok (.iconst 1, 1) := by decide +kernel
theorem dX8_isMeeting_64 : decode cX8_isMeeting 64 = .ok (.iadd, 1) := by decide +kernel
theorem dX8_isMeeting_65 : decode cX8_isMeeting 65 = .ok (.iaload, 1) := by decide +kernel
theorem dX8_isMeeting_66 : decode cX8_isMeeting 66 = .ok (.iload_n 3, 1) := by decide +kernel
theorem dX8_isMeeting_67 : decode cX8_isMeeting 67 = .ok (.if_icmp .ne 37, 3) := by decide +kernel
theorem dX8_isMeeting_70 : decode cX8_isMeeting 70 = .ok (.aload_n 0, 1) := by decide +kernel
theorem dX8_isMeeting_71 : decode cX8_isMeeting 71 = .ok (.getfield 70, 3) := by decide +kernel
theorem dX8_isMeeting_74 : decode cX8_isMeeting 74 = .ok (.iload_n 1, 1) := by decide +kernel
theorem dX8_isMeeting_75 : decode cX8_isMeeting 75 = .ok (.iload 5, 2) := by decide +kernel
theorem dX8_isMeeting_77 : decode cX8_isMeeting 77 = .ok (.invokestatic 276, 3) := by decide +kernel
theorem dX8_isMeeting_80 : decode cX8_isMeeting 80 = .ok (.iaload, 1) := by decide +kernel
theorem dX8_isMeeting_81 : decode cX8_isMeeting 81 = .ok (.iload 6, 2) := by decide +kernel
theorem dX8_isMeeting_83 : decode cX8_isMeeting 83 = .ok (.if_icmp .gt 21, 3) := by decide +kernel
theorem dX8_isMeeting_86 : decode cX8_isMeeting 86 = .ok (.aload_n 0, 1) := by decide +kernel
theorem dX8_isMeeting_87 : decode cX8_isMeeting 87 = .ok (.getfield 70, 3) := by decide +kernel
theorem dX8_isMeeting_90 : decode cX8_isMeeting 90 = .ok (.iload_n 2, 1) := by decide +kernel
theorem dX8_isMeeting_91 : decode cX8_isMeeting 91 = .ok (.iload 5, 2) := by decide +kernel
theorem dX8_isMeeting_93 : decode cX8_isMeeting 93 = .ok (.invokestatic 276, 3) := by decide +kernel
theorem dX8_isMeeting_96 : decode cX8_isMeeting 96 = .ok (.iaload, 1) := by decide +kernel
theorem dX8_isMeeting_97 : decode cX8_isMeeting 97 = .ok (.iload 6, 2) := by decide +kernel
theorem dX8_isMeeting_99 : decode cX8_isMeeting 99 = .ok (.if_icmp .gt 5, 3) := by decide +kernel
theorem dX8_isMeeting_102 : decode cX8_isMeeting 102 = .ok (.iconst 1, 1) := by decide +kernel
theorem dX8_isMeeting_103 : decode cX8_isMeeting 103 = .ok (.ireturn, 1) := by decide +kernel
theorem dX8_isMeeting_104 : decode cX8_isMeeting 104 = .ok (.iinc 4 1, 3) := by decide +kernel
theorem dX8_isMeeting_107 : decode cX8_isMeeting 107 = .ok (.goto (-85), 3) := by decide +kernel
theorem dX8_isMeeting_110 : decode cX8_isMeeting 110 = .ok (.iconst 0, 1) := by decide +kernel
theorem dX8_isMeeting_111 : decode cX8_isMeeting 111 = .ok (.ireturn, 1) := by decide +kernel
theorem dX8_tellMeetings_0 : decode cX8_tellMeetings 0 = .ok (.iconst 0, 1) := by decide +kernel
theorem dX8_tellMeetings_1 : decode cX8_tellMeetings 1 = .ok (.istore_n 1, 1) := by decide +kernel
theorem dX8_tellMeetings_2 : decode cX8_tellMeetings 2 = .ok (.iload_n 1, 1) := by decide +kernel
theorem dX8_tellMeetings_3 : decode cX8_tellMeetings 3 = .ok (.aload_n 0, 1) := by decide +kernel
theorem dX8_tellMeetings_4 : decode cX8_tellMeetings 4 = .ok (.getfield 34, 3) := by decide +kernel
theorem dX8_tellMeetings_7 : decode cX8_tellMeetings 7 = .ok (.iconst 4, 1) := by decide +kernel
theorem dX8_tellMeetings_8 : decode cX8_tellMeetings 8 = .ok (.iaload, 1) := by decide +kernel
theorem dX8_tellMeetings_9 : decode cX8_tellMeetings 9 = .ok (.if_icmp .ge 120, 3) := by decide +kernel
theorem dX8_tellMeetings_12 : decode cX8_tellMeetings 12 = .ok (.iconst 0, 1) := by decide +kernel
theorem dX8_tellMeetings_13 : decode cX8_tellMeetings 13 = .ok (.istore_n 2, 1) := by decide +kernel
theorem dX8_tellMeetings_14 : decode cX8_tellMeetings 14 = .ok (.iload_n 2, 1) := by decide +kernel
theorem dX8_tellMeetings_15 : decode cX8_tellMeetings 15 = .ok (.aload_n 0, 1) := by decide +kernel
theorem dX8_tellMeetings_16 : decode cX8_tellMeetings 16 = .ok (.getfield 34, 3) := by decide +kernel
theorem dX8_tellMeetings_19 : decode cX8_tellMeetings 19 = .ok (.iconst 4, 1) := by decide +kernel
theorem dX8_tellMeetings_20 : decode cX8_tellMeetings 20 = .ok (.iaload, 1) := by decide +kernel
theorem dX8_tellMeetings_21 : decode cX8_tellMeetings 21 = .ok (.if_icmp .ge 102, 3) := by decide +kernel
theorem dX8_tellMeetings_24 : decode cX8_tellMeetings 24 = .ok (.aload_n 0, 1) := by decide +kernel
theorem dX8_tellMeetings_25 : decode cX8_tellMeetings 25 = .ok (.getfield 97, 3) := by decide +kernel
theorem dX8_tellMeetings_28 : decode cX8_tellMeetings 28 = .ok (.iconst 5, 1) := by decide +kernel
theorem dX8_tellMeetings_29 : decode cX8_tellMeetings 29 = .ok (.iload_n 1, 1) := by decide +kernel
theorem dX8_tellMeetings_30 : decode cX8_tellMeetings 30 = .ok (.imul, 1) := by decide +kernel
theorem dX8_tellMeetings_31 : decode cX8_tellMeetings 31 = .ok (.iload_n 2, 1) := by decide +kernel
theorem dX8_tellMeetings_32 : decode cX8_tellMeetings 32 = .ok (.iadd, 1) := by decide +kernel
theorem dX8_tellMeetings_33 : decode cX8_tellMeetings 33 = .ok (.ldc 186, 2) := by decide +kernel
theorem dX8_tellMeetings_35 : decode cX8_tellMeetings 35 = .ok (.iastore, 1) := by decide +kernel
theorem dX8_tellMeetings_36 : decode cX8_tellMeetings 36 = .ok (.aload_n 0, 1) := by decide +kernel
theorem dX8_tellMeetings_37 : decode cX8_tellMeetings 37 = .ok (.getfield 49, 3) := by decide +kernel
theorem dX8_tellMeetings_40 : decode cX8_tellMeetings 40 = .ok (.iload_n 1, 1) := by decide +kernel
theorem dX8_tellMeetings_41 : decode cX8_tellMeetings 41 = .ok (.iaload, 1) := by decide +kernel
theorem dX8_tellMeetings_42 : decode cX8_tellMeetings 42 = .ok (.iconst 1, 1) := by decide +kernel
theorem dX8_tellMeetings_43 : decode cX8_tellMeetings 43 = .ok (.isub, 1) := by decide +kernel
theorem dX8_tellMeetings_44 : decode cX8_tellMeetings 44 = .ok (.istore_n 3, 1) := by decide +kernel
theorem dX8_tellMeetings_45 : decode cX8_tellMeetings 45 = .ok (.iload_n 3, 1) := by decide +kernel
theorem dX8_tellMeetings_46 : decode cX8_tellMeetings 46 = .ok (.ifCond .lt 71, 3) := by decide +kernel
theorem dX8_tellMeetings_49 : decode cX8_tellMeetings 49 = .ok (.aload_n 0, 1) := by decide +kernel
theorem dX8_tellMeetings_50 : decode cX8_tellMeetings 50 = .ok (.getfield 94, 3) := by decide +kernel
theorem dX8_tellMeetings_53 : decode cX8_tellMeetings 53 = .ok (.bipush 7, 2) := by decide +kernel
theorem dX8_tellMeetings_55 : decode cX8_tellMeetings 55 = .ok (.iload_n 1, 1) := by decide +kernel
theorem dX8_tellMeetings_56 : decode cX8_tellMeetings 56 = .ok (.imul, 1) := by decide +kernel
theorem dX8_tellMeetings_57 : decode cX8_tellMeetings 57 = .ok (.iload_n 3, 1) := by decide +kernel
theorem dX8_tellMeetings_58 : decode cX8_tellMeetings 58 = .ok (.iadd, 1) := by decide +kernel
theorem dX8_tellMeetings_59 : decode cX8_tellMeetings 59 = .ok (.iaload, 1) := by decide +kernel
theorem dX8_tellMeetings_60 : decode cX8_tellMeetings 60 = .ok (.istore 4, 2) := by decide +kernel
theorem dX8_tellMeetings_62 : decode cX8_tellMeetings 62 = .ok (.aload_n 0, 1) := by decide +kernel
theorem dX8_tellMeetings_63 : decode cX8_tellMeetings 63 = .ok (.iload_n 2, 1) := by decide +kernel
theorem dX8_tellMeetings_64 : decode cX8_tellMeetings 64 = .ok (.iload 4, 2) := by decide +kernel
theorem dX8_tellMeetings_66 : decode cX8_tellMeetings 66 = .ok (.invokevirtual 346, 3) := by decide +kernel
theorem dX8_tellMeetings_69 : decode cX8_tellMeetings 69 = .ok (.istore 5, 2) := by decide +kernel
theorem dX8_tellMeetings_71 : decode cX8_tellMeetings 71 = .ok (.iload 5, 2) := by decide +kernel
theorem dX8_tellMeetings_73 : decode cX8_tellMeetings 73 = .ok (.iconst (-1), 1) := by decide +kernel
theorem dX8_tellMeetings_74 : decode cX8_tellMeetings 74 = .ok (.if_icmp .eq 37, 3) := by decide +kernel
theorem dX8_tellMeetings_77 : decode cX8_tellMeetings 77 = .ok (.aload_n 0, 1) := by decide +kernel
theorem dX8_tellMeetings_78 : decode cX8_tellMeetings 78 = .ok (.aload_n 0, 1) := by decide +kernel
theorem dX8_tellMeetings_79 : decode cX8_tellMeetings 79 = .ok (.getfield 91, 3) := by decide +kernel
theorem dX8_tellMeetings_82 : decode cX8_tellMeetings 82 = .ok (.bipush 7, 2) := by decide +kernel
theorem dX8_tellMeetings_84 : decode cX8_tellMeetings 84 = .ok (.iload_n 1, 1) := by decide +kernel
theorem dX8_tellMeetings_85 : decode cX8_tellMeetings 85 = .ok (.imul, 1) := by decide +kernel
theorem dX8_tellMeetings_86 : decode cX8_tellMeetings 86 = .ok (.iload_n 3, 1) := by decide +kernel
theorem dX8_tellMeetings_87 : decode cX8_tellMeetings 87 = .ok (.iadd, 1) := by decide +kernel
theorem dX8_tellMeetings_88 : decode cX8_tellMeetings 88 = .ok (.iaload, 1) := by decide +kernel
theorem dX8_tellMeetings_89 : decode cX8_tellMeetings 89 = .ok (.iload 5, 2) := by decide +kernel
theorem dX8_tellMeetings_91 : decode cX8_tellMeetings 91 = .ok (.iload 4, 2) := by decide +kernel
theorem dX8_tellMeetings_93 : decode cX8_tellMeetings 93 = .ok (.invokevirtual 349, 3) := by decide +kernel
theorem dX8_tellMeetings_96 : decode cX8_tellMeetings 96 = .ok (.ifCond .eq 15, 3) := by decide +kernel
theorem dX8_tellMeetings_99 : decode cX8_tellMeetings 99 = .ok (.aload_n 0, 1) := by decide +kernel
theorem dX8_tellMeetings_100 : decode cX8_tellMeetings 100 = .ok (.getfield 97, 3) := by decide +kernel
theorem dX8_tellMeetings_103 : decode cX8_tellMeetings 103 = .ok (.iconst 5, 1) := by decide +kernel
theorem dX8_tellMeetings_104 : decode cX8_tellMeetings 104 = .ok (.iload_n 1, 1) := by decide +kernel
theorem dX8_tellMeetings_105 : decode cX8_tellMeetings 105 = .ok (.imul, 1) := by decide +kernel
theorem dX8_tellMeetings_106 : decode cX8_tellMeetings 106 = .ok (.iload_n 2, 1) := by decide +kernel
theorem dX8_tellMeetings_107 : decode cX8_tellMeetings 107 = .ok (.iadd, 1) := by decide +kernel
theorem dX8_tellMeetings_108 : decode cX8_tellMeetings 108 = .ok (.iload 4, 2) := by decide +kernel
theorem dX8_tellMeetings_110 : decode cX8_tellMeetings 110 = .ok (.iastore, 1) := by decide +kernel
theorem dX8_tellMeetings_111 : decode cX8_tellMeetings 111 = .ok (.iinc 3 (-1), 3) := by decide +kernel
theorem dX8_tellMeetings_114 : decode cX8_tellMeetings 114 = .ok (.goto (-69), 3) := by decide +kernel
theorem dX8_tellMeetings_117 : decode cX8_tellMeetings 117 = .ok (.iinc 2 1, 3) := by decide +kernel
theorem dX8_tellMeetings_120 : decode cX8_tellMeetings 120 = .ok (.goto (-106), 3) := by decide +kernel
theorem dX8_tellMeetings_123 : decode cX8_tellMeetings 123 = .ok (.iinc 1 1, 3) := by decide +kernel
theorem dX8_tellMeetings_126 : decode cX8_tellMeetings 126 = .ok (.goto (-124), 3) := by decide +kernel
theorem dX8_tellMeetings_129 : decode cX8_tellMeetings 129 = .ok (.return_, 1) := by decide +kernel
theorem dX8_isFeast_0 : decode cX8_isFeast 0 = .ok (.iconst 0, 1) := by decide +kernel
theorem dX8_isFeast_1 : decode cX8_isFeast 1 = .ok (.istore_n 3, 1) := by decide +kernel
theorem dX8_isFeast_2 : decode cX8_isFeast 2 = .ok (.iload_n 3, 1) := by decide +kernel
theorem dX8_isFeast_3 : decode cX8_isFeast 3 = .ok (.aload_n 0, 1) := by decide +kernel
theorem dX8_isFeast_4 : decode cX8_isFeast 4 = .ok (.getfield 317, 3) := by decide +kernel
theorem dX8_isFeast_7 : decode cX8_isFeast 7 = .ok (.if_icmp .ge 51, 3) := by decide +kernel
theorem dX8_isFeast_10 : decode cX8_isFeast 10 = .ok (.aload_n 0, 1) := by decide +kernel
theorem dX8_isFeast_11 : decode cX8_isFeast 11 = .ok (.getfield 76, 3) := by decide +kernel
theorem dX8_isFeast_14 : decode cX8_isFeast 14 = .ok (.iconst 3, 1) := by decide +kernel
theorem dX8_isFeast_15 : decode cX8_isFeast 15 = .ok (.iload_n 3, 1) := by decide +kernel
theorem dX8_isFeast_16 : decode cX8_isFeast 16 = .ok (.imul, 1) := by decide +kernel
theorem dX8_isFeast_17 : decode cX8_isFeast 17 = .ok (.iaload, 1) := by decide +kernel
theorem dX8_isFeast_18 : decode cX8_isFeast 18 = .ok (.iload_n 1, 1) := by decide +kernel
theorem dX8_isFeast_19 : decode cX8_isFeast 19 = .ok (.if_icmp .ne 33, 3) := by decide +kernel
theorem dX8_isFeast_22 : decode cX8_isFeast 22 = .ok (.iload_n 2, 1) := by decide +kernel
theorem dX8_isFeast_23 : decode cX8_isFeast 23 = .ok (.aload_n 0, 1) := by decide +kernel
theorem dX8_isFeast_24 : decode cX8_isFeast 24 = .ok (.getfield 76, 3) := by decide +kernel
theorem dX8_isFeast_27 : decode cX8_isFeast 27 = .ok (.iconst 3, 1) := by decide +kernel
theorem dX8_isFeast_28 : decode cX8_isFeast 28 = .ok (.iload_n 3, 1) := by decide +kernel
theorem dX8_isFeast_29 : decode cX8_isFeast 29 = .ok (.imul, 1) := by decide +kernel
theorem dX8_isFeast_30 : decode cX8_isFeast 30 = .ok (.iconst 1, 1) := by decide +kernel
theorem dX8_isFeast_31 : decode cX8_isFeast 31 = .ok (.iadd, 1) := by decide +kernel
theorem dX8_isFeast_32 : decode cX8_isFeast 32 = .ok (.iaload, 1) := by decide +kernel
theorem dX8_isFeast_33 : decode cX8_isFeast 33 = .ok (.if_icmp .lt 19, 3) := by decide +kernel
theorem dX8_isFeast_36 : decode cX8_isFeast 36 = .ok (.iload_n 2, 1) := by decide +kernel
theorem dX8_isFeast_37 : decode cX8_isFeast 37 = .ok (.aload_n 0, 1) := by decide +kernel
theorem dX8_isFeast_38 : decode cX8_isFeast 38 = .ok (.getfield 76, 3) := by decide +kernel
theorem dX8_isFeast_41 : decode cX8_isFeast 41 = .ok (.iconst 3, 1) := by decide +kernel
theorem dX8_isFeast_42 : decode cX8_isFeast 42 = .ok (.iload_n 3, 1) := by decide +kernel
theorem dX8_isFeast_43 : decode cX8_isFeast 43 = .ok (.imul, 1) := by decide +kernel
theorem dX8_isFeast_44 : decode cX8_isFeast 44 = .ok (.iconst 2, 1) := by decide +kernel
theorem dX8_isFeast_45 : decode cX8_isFeast 45 = .ok (.iadd, 1) := by decide +kernel
theorem dX8_isFeast_46 : decode cX8_isFeast 46 = .ok (.iaload, 1) := by decide +kernel
theorem dX8_isFeast_47 : decode cX8_isFeast 47 = .ok (.if_icmp .gt 5, 3) := by decide +kernel
theorem dX8_isFeast_50 : decode cX8_isFeast 50 = .ok (.iconst 1, 1) := by decide +kernel
theorem dX8_isFeast_51 : decode cX8_isFeast 51 = .ok (.ireturn, 1) := by decide +kernel
theorem dX8_isFeast_52 : decode cX8_isFeast 52 = .ok (.iinc 3 1, 3) := by decide +kernel
theorem dX8_isFeast_55 : decode cX8_isFeast 55 = .ok (.goto (-53), 3) := by decide +kernel
theorem dX8_isFeast_58 : decode cX8_isFeast 58 = .ok (.iconst 0, 1) := by decide +kernel
theorem dX8_isFeast_59 : decode cX8_isFeast 59 = .ok (.ireturn, 1) := by decide +kernel
theorem dX8_saidAhead_0 : decode cX8_saidAhead 0 = .ok (.iconst 0, 1) := by decide +kernel
theorem dX8_saidAhead_1 : decode cX8_saidAhead 1 = .ok (.istore_n 3, 1) := by decide +kernel
theorem dX8_saidAhead_2 : decode cX8_saidAhead 2 = .ok (.iconst 0, 1) := by decide +kernel
theorem dX8_saidAhead_3 : decode cX8_saidAhead 3 = .ok (.istore 4, 2) := by decide +kernel
theorem dX8_saidAhead_5 : decode cX8_saidAhead 5 = .ok (.iload 4, 2) := by decide +kernel
theorem dX8_saidAhead_7 : decode cX8_saidAhead 7 = .ok (.aload_n 0, 1) := by decide +kernel
theorem dX8_saidAhead_8 : decode cX8_saidAhead 8 = .ok (.getfield 34, 3) := by decide +kernel
theorem dX8_saidAhead_11 : decode cX8_saidAhead 11 = .ok (.iconst 4, 1) := by decide +kernel
theorem dX8_saidAhead_12 : decode cX8_saidAhead 12 = .ok (.iaload, 1) := by decide +kernel
theorem dX8_saidAhead_13 : decode cX8_saidAhead 13 = .ok (.if_icmp .ge 47, 3) := by decide +kernel
theorem dX8_saidAhead_16 : decode cX8_saidAhead 16 = .ok (.iload_n 3, 1) := by decide +kernel
theorem dX8_saidAhead_17 : decode cX8_saidAhead 17 = .ok (.aload_n 0, 1) := by decide +kernel
theorem dX8_saidAhead_18 : decode cX8_saidAhead 18 = .ok (.getfield 106, 3) := by decide +kernel
theorem dX8_saidAhead_21 : decode cX8_saidAhead 21 = .ok (.iconst 5, 1) := by decide +kernel
theorem dX8_saidAhead_22 : decode cX8_saidAhead 22 = .ok (.iload_n 1, 1) := by decide +kernel
theorem dX8_saidAhead_23 : decode cX8_saidAhead 23 = .ok (.imul, 1) := by decide +kernel
theorem dX8_saidAhead_24 : decode cX8_saidAhead 24 = .ok (.iload 4, 2) := by decide +kernel
theorem dX8_saidAhead_26 : decode cX8_saidAhead 26 = .ok (.iadd, 1) := by decide +kernel
theorem dX8_saidAhead_27 : decode cX8_saidAhead 27 = .ok (.iaload, 1) := by decide +kernel
theorem dX8_saidAhead_28 : decode cX8_saidAhead 28 = .ok (.iconst (-1), 1) := by decide +kernel
theorem dX8_saidAhead_29 : decode cX8_saidAhead 29 = .ok (.if_icmp .eq 22, 3) := by decide +kernel
theorem dX8_saidAhead_32 : decode cX8_saidAhead 32 = .ok (.aload_n 0, 1) := by decide +kernel
theorem dX8_saidAhead_33 : decode cX8_saidAhead 33 = .ok (.getfield 108, 3) := by decide +kernel
theorem dX8_saidAhead_36 : decode cX8_saidAhead 36 = .ok (.iconst 5, 1) := by decide +kernel
theorem dX8_saidAhead_37 : decode cX8_saidAhead 37 = .ok (.iload_n 1, 1) := by decide +kernel
theorem dX8_saidAhead_38 : decode cX8_saidAhead 38 = .ok (.imul, 1) := by decide +kernel
theorem dX8_saidAhead_39 : decode cX8_saidAhead 39 = .ok (.iload 4, 2) := by decide +kernel
theorem dX8_saidAhead_41 : decode cX8_saidAhead 41 = .ok (.iadd, 1) := by decide +kernel
theorem dX8_saidAhead_42 : decode cX8_saidAhead 42 = .ok (.iaload, 1) := by decide +kernel
theorem dX8_saidAhead_43 : decode cX8_saidAhead 43 = .ok (.iload_n 2, 1) := by decide +kernel
theorem dX8_saidAhead_44 : decode cX8_saidAhead 44 = .ok (.if_icmp .ge 7, 3) := by decide +kernel
theorem dX8_saidAhead_47 : decode cX8_saidAhead 47 = .ok (.iconst 1, 1) := by decide +kernel
theorem dX8_saidAhead_48 : decode cX8_saidAhead 48 = .ok (.goto 4, 3) := by decide +kernel
theorem dX8_saidAhead_51 : decode cX8_saidAhead 51 = .ok (.iconst 0, 1) := by decide +kernel
theorem dX8_saidAhead_52 : decode cX8_saidAhead 52 = .ok (.iadd, 1) := by decide +kernel
theorem dX8_saidAhead_53 : decode cX8_saidAhead 53 = .ok (.istore_n 3, 1) := by decide +kernel
theorem dX8_saidAhead_54 : decode cX8_saidAhead 54 = .ok (.iinc 4 1, 3) := by decide +kernel
theorem dX8_saidAhead_57 : decode cX8_saidAhead 57 = .ok (.goto (-52), 3) := by decide +kernel
theorem dX8_saidAhead_60 : decode cX8_saidAhead 60 = .ok (.iload_n 3, 1) := by decide +kernel
theorem dX8_saidAhead_61 : decode cX8_saidAhead 61 = .ok (.ireturn, 1) := by decide +kernel
theorem dX8_holds_0 : decode cX8_holds 0 = .ok (.aload_n 0, 1) := by decide +kernel
theorem dX8_holds_1 : decode cX8_holds 1 = .ok (.getfield 55, 3) := by decide +kernel
theorem dX8_holds_4 : decode cX8_holds 4 = .ok (.bipush 9, 2) := by decide +kernel
theorem dX8_holds_6 : decode cX8_holds 6 = .ok (.iload_n 1, 1) := by decide +kernel
theorem dX8_holds_7 : decode cX8_holds 7 = .ok (.imul, 1) := by decide +kernel
theorem dX8_holds_8 : decode cX8_holds 8 = .ok (.iload_n 3, 1) := by decide +kernel
theorem dX8_holds_9 : decode cX8_holds 9 = .ok (.iadd, 1) := by decide +kernel
theorem dX8_holds_10 : decode cX8_holds 10 = .ok (.iaload, 1) := by decide +kernel
theorem dX8_holds_11 : decode cX8_holds 11 = .ok (.istore 5, 2) := by decide +kernel
theorem dX8_holds_13 : decode cX8_holds 13 = .ok (.iload 5, 2) := by decide +kernel
theorem dX8_holds_15 : decode cX8_holds 15 = .ok (.iconst 4, 1) := by decide +kernel
theorem dX8_holds_16 : decode cX8_holds 16 = .ok (.if_icmp .le 7, 3) := by decide +kernel
theorem dX8_holds_19 : decode cX8_holds 19 = .ok (.iconst 1, 1) := by decide +kernel
theorem dX8_holds_20 : decode cX8_holds 20 = .ok (.goto 4, 3) := by decide +kernel
theorem dX8_holds_23 : decode cX8_holds 23 = .ok (.iconst 0, 1) := by decide +kernel
theorem dX8_holds_24 : decode cX8_holds 24 = .ok (.istore 6, 2) := by decide +kernel
theorem dX8_holds_26 : decode cX8_holds 26 = .ok (.aload_n 0, 1) := by decide +kernel
theorem dX8_holds_27 : decode cX8_holds 27 = .ok (.getfield 34, 3) := by decide +kernel
theorem dX8_holds_30 : decode cX8_holds 30 = .ok (.bipush 6, 2) := by decide +kernel
theorem dX8_holds_32 : decode cX8_holds 32 = .ok (.iaload, 1) := by decide +kernel
theorem dX8_holds_33 : decode cX8_holds 33 = .ok (.ifCond .le 65, 3) := by decide +kernel
theorem dX8_holds_36 : decode cX8_holds 36 = .ok (.aload_n 0, 1) := by decide +kernel
theorem dX8_holds_37 : decode cX8_holds 37 = .ok (.getfield 85, 3) := by decide +kernel
theorem dX8_holds_40 : decode cX8_holds 40 = .ok (.iconst 0, 1) := by decide +kernel
theorem dX8_holds_41 : decode cX8_holds 41 = .ok (.iload 5, 2) := by decide +kernel
theorem dX8_holds_43 : decode cX8_holds 43 = .ok (.iastore, 1) := by decide +kernel
theorem dX8_holds_44 : decode cX8_holds 44 = .ok (.aload_n 0, 1) := by decide +kernel
theorem dX8_holds_45 : decode cX8_holds 45 = .ok (.getfield 85, 3) := by decide +kernel
theorem dX8_holds_48 : decode cX8_holds 48 = .ok (.iconst 1, 1) := by decide +kernel
theorem dX8_holds_49 : decode cX8_holds 49 = .ok (.aload_n 0, 1) := by decide +kernel
theorem dX8_holds_50 : decode cX8_holds 50 = .ok (.getfield 47, 3) := by decide +kernel
theorem dX8_holds_53 : decode cX8_holds 53 = .ok (.iload_n 2, 1) := by decide +kernel
theorem dX8_holds_54 : decode cX8_holds 54 = .ok (.iaload, 1) := by decide +kernel
theorem dX8_holds_55 : decode cX8_holds 55 = .ok (.iastore, 1) := by decide +kernel
theorem dX8_holds_56 : decode cX8_holds 56 = .ok (.aload_n 0, 1) := by decide +kernel
theorem dX8_holds_57 : decode cX8_holds 57 = .ok (.getfield 85, 3) := by decide +kernel
theorem dX8_holds_60 : decode cX8_holds 60 = .ok (.iconst 2, 1) := by decide +kernel
theorem dX8_holds_61 : decode cX8_holds 61 = .ok (.iload 4, 2) := by decide +kernel
theorem dX8_holds_63 : decode cX8_holds 63 = .ok (.iastore, 1) := by decide +kernel
theorem dX8_holds_64 : decode cX8_holds 64 = .ok (.aload_n 0, 1) := by decide +kernel
theorem dX8_holds_65 : decode cX8_holds 65 = .ok (.getfield 85, 3) := by decide +kernel
theorem dX8_holds_68 : decode cX8_holds 68 = .ok (.iconst 3, 1) := by decide +kernel
theorem dX8_holds_69 : decode cX8_holds 69 = .ok (.iload_n 3, 1) := by decide +kernel
theorem dX8_holds_70 : decode cX8_holds 70 = .ok (.iastore, 1) := by decide +kernel
theorem dX8_holds_71 : decode cX8_holds 71 = .ok (.aload_n 0, 1) := by decide +kernel
theorem dX8_holds_72 : decode cX8_holds 72 = .ok (.getfield 85, 3) := by decide +kernel
theorem dX8_holds_75 : decode cX8_holds 75 = .ok (.iconst 4, 1) := by decide +kernel
theorem dX8_holds_76 : decode cX8_holds 76 = .ok (.aload_n 0, 1) := by decide +kernel
theorem dX8_holds_77 : decode cX8_holds 77 = .ok (.iload_n 1, 1) := by decide +kernel
theorem dX8_holds_78 : decode cX8_holds 78 = .ok (.iload 4, 2) := by decide +kernel
theorem dX8_holds_80 : decode cX8_holds 80 = .ok (.invokevirtual 353, 3) := by decide +kernel
theorem dX8_holds_83 : decode cX8_holds 83 = .ok (.iastore, 1) := by decide +kernel
theorem dX8_holds_84 : decode cX8_holds 84 = .ok (.aload_n 0, 1) := by decide +kernel
theorem dX8_holds_85 : decode cX8_holds 85 = .ok (.invokevirtual 356, 3) := by decide +kernel
theorem dX8_holds_88 : decode cX8_holds 88 = .ok (.ifCond .le 7, 3) := by decide +kernel
theorem dX8_holds_91 : decode cX8_holds 91 = .ok (.iconst 1, 1) := by decide +kernel
theorem dX8_holds_92 : decode cX8_holds 92 = .ok (.goto 4, 3) := by decide +kernel
theorem dX8_holds_95 : decode cX8_holds 95 = .ok (.iconst 0, 1) := by decide +kernel
theorem dX8_holds_96 : decode cX8_holds 96 = .ok (.istore 6, 2) := by decide +kernel
theorem dX8_holds_98 : decode cX8_holds 98 = .ok (.iload 6, 2) := by decide +kernel
theorem dX8_holds_100 : decode cX8_holds 100 = .ok (.aload_n 0, 1) := by decide +kernel
theorem dX8_holds_101 : decode cX8_holds 101 = .ok (.getfield 41, 3) := by decide +kernel
theorem dX8_holds_104 : decode cX8_holds 104 = .ok (.iload_n 2, 1) := by decide +kernel
theorem dX8_holds_105 : decode cX8_holds 105 = .ok (.iaload, 1) := by decide +kernel
theorem dX8_holds_106 : decode cX8_holds 106 = .ok (.iconst 2, 1) := by decide +kernel
theorem dX8_holds_107 : decode cX8_holds 107 = .ok (.if_icmp .ne 7, 3) := by decide +kernel
theorem dX8_holds_110 : decode cX8_holds 110 = .ok (.iconst 1, 1) := by decide +kernel
theorem dX8_holds_111 : decode cX8_holds 111 = .ok (.goto 4, 3) := by decide +kernel
theorem dX8_holds_114 : decode cX8_holds 114 = .ok (.iconst 0, 1) := by decide +kernel
theorem dX8_holds_115 : decode cX8_holds 115 = .ok (.if_icmp .eq 7, 3) := by decide +kernel
theorem dX8_holds_118 : decode cX8_holds 118 = .ok (.iconst 1, 1) := by decide +kernel
theorem dX8_holds_119 : decode cX8_holds 119 = .ok (.goto 4, 3) := by decide +kernel
theorem dX8_holds_122 : decode cX8_holds 122 = .ok (.iconst 0, 1) := by decide +kernel
theorem dX8_holds_123 : decode cX8_holds 123 = .ok (.ireturn, 1) := by decide +kernel
theorem dX8_hear_0 : decode cX8_hear 0 = .ok (.iconst 0, 1) := by decide +kernel
theorem dX8_hear_1 : decode cX8_hear 1 = .ok (.istore 4, 2) := by decide +kernel
theorem dX8_hear_3 : decode cX8_hear 3 = .ok (.iload 4, 2) := by decide +kernel
theorem dX8_hear_5 : decode cX8_hear 5 = .ok (.aload_n 0, 1) := by decide +kernel
theorem dX8_hear_6 : decode cX8_hear 6 = .ok (.getfield 34, 3) := by decide +kernel
theorem dX8_hear_9 : decode cX8_hear 9 = .ok (.iconst 5, 1) := by decide +kernel
theorem dX8_hear_10 : decode cX8_hear 10 = .ok (.iaload, 1) := by decide +kernel
theorem dX8_hear_11 : decode cX8_hear 11 = .ok (.if_icmp .ge 96, 3) := by decide +kernel
theorem dX8_hear_14 : decode cX8_hear 14 = .ok (.aload_n 0, 1) := by decide +kernel
theorem dX8_hear_15 : decode cX8_hear 15 = .ok (.iload_n 2, 1) := by decide +kernel
theorem dX8_hear_16 : decode cX8_hear 16 = .ok (.iload_n 3, 1) := by decide +kernel
theorem dX8_hear_17 : decode cX8_hear 17 = .ok (.invokevirtual 359, 3) := by decide +kernel
theorem dX8_hear_20 : decode cX8_hear 20 = .ok (.ifCond .ne 87, 3) := by decide +kernel
theorem dX8_hear_23 : decode cX8_hear 23 = .ok (.iconst 5, 1) := by decide +kernel
theorem dX8_hear_24 : decode cX8_hear 24 = .ok (.iload 4, 2) := by decide +kernel
theorem dX8_hear_26 : decode cX8_hear 26 = .ok (.imul, 1) := by decide +kernel
theorem dX8_hear_27 : decode cX8_hear 27 = .ok (.iload_n 1, 1) := by decide +kernel
theorem dX8_hear_28 : decode cX8_hear 28 = .ok (.iadd, 1) := by decide +kernel
theorem dX8_hear_29 : decode cX8_hear 29 = .ok (.istore 5, 2) := by decide +kernel
theorem dX8_hear_31 : decode cX8_hear 31 = .ok (.aload_n 0, 1) := by decide +kernel
theorem dX8_hear_32 : decode cX8_hear 32 = .ok (.getfield 55, 3) := by decide +kernel
theorem dX8_hear_35 : decode cX8_hear 35 = .ok (.bipush 9, 2) := by decide +kernel
theorem dX8_hear_37 : decode cX8_hear 37 = .ok (.iload 4, 2) := by decide +kernel
theorem dX8_hear_39 : decode cX8_hear 39 = .ok (.imul, 1) := by decide +kernel
theorem dX8_hear_40 : decode cX8_hear 40 = .ok (.iload_n 2, 1) := by decide +kernel
theorem dX8_hear_41 : decode cX8_hear 41 = .ok (.iadd, 1) := by decide +kernel
theorem dX8_hear_42 : decode cX8_hear 42 = .ok (.iaload, 1) := by decide +kernel
theorem dX8_hear_43 : decode cX8_hear 43 = .ok (.iconst (-1), 1) := by decide +kernel
theorem dX8_hear_44 : decode cX8_hear 44 = .ok (.if_icmp .eq 57, 3) := by decide +kernel
theorem dX8_hear_47 : decode cX8_hear 47 = .ok (.aload_n 0, 1) := by decide +kernel
theorem dX8_hear_48 : decode cX8_hear 48 = .ok (.getfield 106, 3) := by decide +kernel
theorem dX8_hear_51 : decode cX8_hear 51 = .ok (.iload 5, 2) := by decide +kernel
theorem dX8_hear_53 : decode cX8_hear 53 = .ok (.iaload, 1) := by decide +kernel
theorem dX8_hear_54 : decode cX8_hear 54 = .ok (.iconst (-1), 1) := by decide +kernel
theorem dX8_hear_55 : decode cX8_hear 55 = .ok (.if_icmp .eq 6, 3) := by decide +kernel
theorem dX8_hear_58 : decode cX8_hear 58 = .ok (.goto 43, 3) := by decide +kernel
theorem dX8_hear_61 : decode cX8_hear 61 = .ok (.aload_n 0, 1) := by decide +kernel
theorem dX8_hear_62 : decode cX8_hear 62 = .ok (.getfield 106, 3) := by decide +kernel
theorem dX8_hear_65 : decode cX8_hear 65 = .ok (.iload 5, 2) := by decide +kernel
theorem dX8_hear_67 : decode cX8_hear 67 = .ok (.aload_n 0, 1) := by decide +kernel
theorem dX8_hear_68 : decode cX8_hear 68 = .ok (.iload 4, 2) := by decide +kernel
theorem dX8_hear_70 : decode cX8_hear 70 = .ok (.iload_n 1, 1) := by decide +kernel
theorem dX8_hear_71 : decode cX8_hear 71 = .ok (.iload_n 2, 1) := by decide +kernel
theorem dX8_hear_72 : decode cX8_hear 72 = .ok (.iload_n 3, 1) := by decide +kernel
theorem dX8_hear_73 : decode cX8_hear 73 = .ok (.invokevirtual 362, 3) := by decide +kernel
theorem dX8_hear_76 : decode cX8_hear 76 = .ok (.ifCond .eq 7, 3) := by decide +kernel
theorem dX8_hear_79 : decode cX8_hear 79 = .ok (.iconst 1, 1) := by decide +kernel
theorem dX8_hear_80 : decode cX8_hear 80 = .ok (.goto 4, 3) := by decide +kernel
theorem dX8_hear_83 : decode cX8_hear 83 = .ok (.iconst 0, 1) := by decide +kernel
theorem dX8_hear_84 : decode cX8_hear 84 = .ok (.iastore, 1) := by decide +kernel
theorem dX8_hear_85 : decode cX8_hear 85 = .ok (.aload_n 0, 1) := by decide +kernel
theorem dX8_hear_86 : decode cX8_hear 86 = .ok (.getfield 108, 3) := by decide +kernel
theorem dX8_hear_89 : decode cX8_hear 89 = .ok (.iload 5, 2) := by decide +kernel
theorem dX8_hear_91 : decode cX8_hear 91 = .ok (.iload_n 3, 1) := by decide +kernel
theorem dX8_hear_92 : decode cX8_hear 92 = .ok (.iastore, 1) := by decide +kernel
theorem dX8_hear_93 : decode cX8_hear 93 = .ok (.aload_n 0, 1) := by decide +kernel
theorem dX8_hear_94 : decode cX8_hear 94 = .ok (.getfield 111, 3) := by decide +kernel
theorem dX8_hear_97 : decode cX8_hear 97 = .ok (.iload 5, 2) := by decide +kernel
theorem dX8_hear_99 : decode cX8_hear 99 = .ok (.iload_n 2, 1) := by decide +kernel
theorem dX8_hear_100 : decode cX8_hear 100 = .ok (.iastore, 1) := by decide +kernel
theorem dX8_hear_101 : decode cX8_hear 101 = .ok (.iinc 4 1, 3) := by decide +kernel
theorem dX8_hear_104 : decode cX8_hear 104 = .ok (.goto (-101), 3) := by decide +kernel
theorem dX8_hear_107 : decode cX8_hear 107 = .ok (.return_, 1) := by decide +kernel
theorem dX8_newsBy_0 : decode cX8_newsBy 0 = .ok (.iconst 5, 1) := by decide +kernel
theorem dX8_newsBy_1 : decode cX8_newsBy 1 = .ok (.iload_n 1, 1) := by decide +kernel
theorem dX8_newsBy_2 : decode cX8_newsBy 2 = .ok (.imul, 1) := by decide +kernel
theorem dX8_newsBy_3 : decode cX8_newsBy 3 = .ok (.iload_n 2, 1) := by decide +kernel
theorem dX8_newsBy_4 : decode cX8_newsBy 4 = .ok (.iadd, 1) := by decide +kernel
theorem dX8_newsBy_5 : decode cX8_newsBy 5 = .ok (.istore 4, 2) := by decide +kernel
theorem dX8_newsBy_7 : decode cX8_newsBy 7 = .ok (.aload_n 0, 1) := by decide +kernel
theorem dX8_newsBy_8 : decode cX8_newsBy 8 = .ok (.getfield 106, 3) := by decide +kernel
theorem dX8_newsBy_11 : decode cX8_newsBy 11 = .ok (.iload 4, 2) := by decide +kernel
theorem dX8_newsBy_13 : decode cX8_newsBy 13 = .ok (.iaload, 1) := by decide +kernel
theorem dX8_newsBy_14 : decode cX8_newsBy 14 = .ok (.iconst (-1), 1) := by decide +kernel
theorem dX8_newsBy_15 : decode cX8_newsBy 15 = .ok (.if_icmp .ne 8, 3) := by decide +kernel
theorem dX8_newsBy_18 : decode cX8_newsBy 18 = .ok (.ldc 186, 2) := by decide +kernel
theorem dX8_newsBy_20 : decode cX8_newsBy 20 = .ok (.goto 23, 3) := by decide +kernel
theorem dX8_newsBy_23 : decode cX8_newsBy 23 = .ok (.aload_n 0, 1) := by decide +kernel
theorem dX8_newsBy_24 : decode cX8_newsBy 24 = .ok (.getfield 108, 3) := by decide +kernel
theorem dX8_newsBy_27 : decode cX8_newsBy 27 = .ok (.iload 4, 2) := by decide +kernel
theorem dX8_newsBy_29 : decode cX8_newsBy 29 = .ok (.iaload, 1) := by decide +kernel
theorem dX8_newsBy_30 : decode cX8_newsBy 30 = .ok (.aload_n 0, 1) := by decide +kernel
theorem dX8_newsBy_31 : decode cX8_newsBy 31 = .ok (.aload_n 0, 1) := by decide +kernel
theorem dX8_newsBy_32 : decode cX8_newsBy 32 = .ok (.getfield 111, 3) := by decide +kernel
theorem dX8_newsBy_35 : decode cX8_newsBy 35 = .ok (.iload 4, 2) := by decide +kernel
theorem dX8_newsBy_37 : decode cX8_newsBy 37 = .ok (.iaload, 1) := by decide +kernel
theorem dX8_newsBy_38 : decode cX8_newsBy 38 = .ok (.iload_n 3, 1) := by decide +kernel
theorem dX8_newsBy_39 : decode cX8_newsBy 39 = .ok (.invokevirtual 366, 3) := by decide +kernel
theorem dX8_newsBy_42 : decode cX8_newsBy 42 = .ok (.iadd, 1) := by decide +kernel
theorem dX8_newsBy_43 : decode cX8_newsBy 43 = .ok (.ireturn, 1) := by decide +kernel
theorem dX8_newsByWord_0 : decode cX8_newsByWord 0 = .ok (.ldc 186, 2) := by decide +kernel
theorem dX8_newsByWord_2 : decode cX8_newsByWord 2 = .ok (.istore_n 3, 1) := by decide +kernel
theorem dX8_newsByWord_3 : decode cX8_newsByWord 3 = .ok (.iconst 0, 1) := by decide +kernel
theorem dX8_newsByWord_4 : decode cX8_newsByWord 4 = .ok (.istore 4, 2) := by decide +kernel
theorem dX8_newsByWord_6 : decode cX8_newsByWord 6 = .ok (.iload 4, 2) := by decide +kernel
theorem dX8_newsByWord_8 : decode cX8_newsByWord 8 = .ok (.aload_n 0, 1) := by decide +kernel
theorem dX8_newsByWord_9 : decode cX8_newsByWord 9 = .ok (.getfield 314, 3) := by decide +kernel
theorem dX8_newsByWord_12 : decode cX8_newsByWord 12 = .ok (.if_icmp .ge 55, 3) := by decide +kernel
theorem dX8_newsByWord_15 : decode cX8_newsByWord 15 = .ok (.aload_n 0, 1) := by decide +kernel
theorem dX8_newsByWord_16 : decode cX8_newsByWord 16 = .ok (.getfield 73, 3) := by decide +kernel
theorem dX8_newsByWord_19 : decode cX8_newsByWord 19 = .ok (.iconst 3, 1) := by decide +kernel
theorem dX8_newsByWord_20 : decode cX8_newsByWord 20 = .ok (.iload 4, 2) := by decide +kernel
theorem dX8_newsByWord_22 : decode cX8_newsByWord 22 = .ok (.imul, 1) := by decide +kernel
theorem dX8_newsByWord_23 : decode cX8_newsByWord 23 = .ok (.iaload, 1) := by decide +kernel
theorem dX8_newsByWord_24 : decode cX8_newsByWord 24 = .ok (.iload_n 1, 1) := by decide +kernel
theorem dX8_newsByWord_25 : decode cX8_newsByWord 25 = .ok (.if_icmp .ne 36, 3) := by decide +kernel
theorem dX8_newsByWord_28 : decode cX8_newsByWord 28 = .ok (.iload_n 3, 1) := by decide +kernel
theorem dX8_newsByWord_29 : decode cX8_newsByWord 29 = .ok (.aload_n 0, 1) := by decide +kernel
theorem dX8_newsByWord_30 : decode cX8_newsByWord 30 = .ok (.getfield 73, 3) := by decide +kernel
theorem dX8_newsByWord_33 : decode cX8_newsByWord 33 = .ok (.iconst 3, 1) := by decide +kernel
theorem dX8_newsByWord_34 : decode cX8_newsByWord 34 = .ok (.iload 4, 2) := by decide +kernel
theorem dX8_newsByWord_36 : decode cX8_newsByWord 36 = .ok (.imul, 1) := by decide +kernel
theorem dX8_newsByWord_37 : decode cX8_newsByWord 37 = .ok (.iconst 2, 1) := by decide +kernel
theorem dX8_newsByWord_38 : decode cX8_newsByWord 38 = .ok (.iadd, 1) := by decide +kernel
theorem dX8_newsByWord_39 : decode cX8_newsByWord 39 = .ok (.iaload, 1) := by decide +kernel
theorem dX8_newsByWord_40 : decode cX8_newsByWord 40 = .ok (.aload_n 0, 1) := by decide +kernel
theorem dX8_newsByWord_41 : decode cX8_newsByWord 41 = .ok (.aload_n 0, 1) := by decide +kernel
theorem dX8_newsByWord_42 : decode cX8_newsByWord 42 = .ok (.getfield 73, 3) := by decide +kernel
theorem dX8_newsByWord_45 : decode cX8_newsByWord 45 = .ok (.iconst 3, 1) := by decide +kernel
theorem dX8_newsByWord_46 : decode cX8_newsByWord 46 = .ok (.iload 4, 2) := by decide +kernel
theorem dX8_newsByWord_48 : decode cX8_newsByWord 48 = .ok (.imul, 1) := by decide +kernel
theorem dX8_newsByWord_49 : decode cX8_newsByWord 49 = .ok (.iconst 1, 1) := by decide +kernel
theorem dX8_newsByWord_50 : decode cX8_newsByWord 50 = .ok (.iadd, 1) := by decide +kernel
theorem dX8_newsByWord_51 : decode cX8_newsByWord 51 = .ok (.iaload, 1) := by decide +kernel
theorem dX8_newsByWord_52 : decode cX8_newsByWord 52 = .ok (.iload_n 2, 1) := by decide +kernel
theorem dX8_newsByWord_53 : decode cX8_newsByWord 53 = .ok (.invokevirtual 366, 3) := by decide +kernel
theorem dX8_newsByWord_56 : decode cX8_newsByWord 56 = .ok (.iadd, 1) := by decide +kernel
theorem dX8_newsByWord_57 : decode cX8_newsByWord 57 = .ok (.invokestatic 187, 3) := by decide +kernel
theorem dX8_newsByWord_60 : decode cX8_newsByWord 60 = .ok (.istore_n 3, 1) := by decide +kernel
theorem dX8_newsByWord_61 : decode cX8_newsByWord 61 = .ok (.iinc 4 1, 3) := by decide +kernel
theorem dX8_newsByWord_64 : decode cX8_newsByWord 64 = .ok (.goto (-58), 3) := by decide +kernel
theorem dX8_newsByWord_67 : decode cX8_newsByWord 67 = .ok (.iload_n 3, 1) := by decide +kernel
theorem dX8_newsByWord_68 : decode cX8_newsByWord 68 = .ok (.ireturn, 1) := by decide +kernel
def f_X8_isMeeting_22  (I : Mem) : Nat → Int32 → Int32 → Int32 → Int32 → Option (Int32)
  | 0, _, _, _, _ => none
  | fu + 1, v1, v2, v3, v4 =>
    if (I 8 0 0 32) ≤ v4 then (some (0 : Int32)) else (gd (inb ((3 : Int32) * v4) 18) <|
    bnd (I 64 0 0 (((3 : Int32) * v4).toNatClampNeg)) fun x1 =>
    gd (inb (((3 : Int32) * v4) + (2 : Int32)) 18) <|
    bnd (I 64 0 0 ((((3 : Int32) * v4) + (2 : Int32)).toNatClampNeg)) fun x2 =>
    gd (inb (((3 : Int32) * v4) + (1 : Int32)) 18) <|
    if (I 64 0 0 ((((3 : Int32) * v4) + (1 : Int32)).toNatClampNeg)) = v3 then ((f_X8_couple I v1 x1).bind fun y1 =>
    gd (inb y1 81) <|
    if x2 < (I 61 0 0 y1.toNatClampNeg) then ((f_X8_isMeeting_22 I fu) v1 v2 v3 (v4 + (1 : Int32))) else ((f_X8_couple I v2 x1).bind fun y2 =>
    gd (inb y2 81) <|
    if x2 < (I 61 0 0 y2.toNatClampNeg) then ((f_X8_isMeeting_22 I fu) v1 v2 v3 (v4 + (1 : Int32))) else (some (1 : Int32)))) else ((f_X8_isMeeting_22 I fu) v1 v2 v3 (v4 + (1 : Int32))))
theorem b_X8_isMeeting_22 (X : CX) (Q : State → Prop) {I : Mem} {P : PMem} {O : Nat → Int64} {D : Bool} {n : Nat} {r : (Int32)}  : ∀ (fu : Nat) {v1 : Int32} {v2 : Int32} {v3 : Int32} {v4 : Int32}, f_X8_isMeeting_22 I fu v1 v2 v3 v4 = some r → EndR X cX8_isMeeting RX8 7 (some .boolean) 3 n (some (.inl r)) I P O D Q → Here X cX8_isMeeting RX8 7 (some .boolean) 3 n 22 [some (.inr (.inr (8, 0, 0))), some (.inl v1), some (.inl v2), some (.inl v3), some (.inl v4), none, none] [] I P O D n Q := by
  intro fu
  induction fu with
  | zero => intro v1 v2 v3 v4 h E; cases h
  | succ fu ih =>
  intro v1 v2 v3 v4 h E
  have H22 : ∀ (v1 : Int32) (v2 : Int32) (v3 : Int32) (v4 : Int32), f_X8_isMeeting_22 I fu v1 v2 v3 v4 = some r → Here X cX8_isMeeting RX8 7 (some .boolean) 3 n 22 [some (.inr (.inr (8, 0, 0))), some (.inl v1), some (.inl v2), some (.inl v3), some (.inl v4), none, none] [] I P O D n Q := fun _ _ _ _ b => ih b E
  simp only [f_X8_isMeeting_22] at h
  refine h_iload dX8_isMeeting_22 rfl ?_
  refine h_aload_n dX8_isMeeting_24 rfl ?_
  refine g_X8_320  dX8_isMeeting_25 ?_
  refine h_icmp_ge (tgt := 110) dX8_isMeeting_28 (by decide) (fun q1 => ?_) (fun q1 => ?_)
  · rw [if_pos q1] at h
    refine h_iconst (0 : Int32) dX8_isMeeting_110 k_iconst_0 ?_
    cases h
    exact h_zret dX8_isMeeting_111 rfl rfl E
  · rw [if_neg q1] at h
    refine h_aload_n dX8_isMeeting_31 rfl ?_
    refine g_X8_79  dX8_isMeeting_32 ?_
    refine h_iconst (3 : Int32) dX8_isMeeting_35 k_iconst_3 ?_
    refine h_iload dX8_isMeeting_36 rfl ?_
    refine h_imul dX8_isMeeting_38 ?_
    obtain ⟨g1, h⟩ := gd_some h
    refine al_64  (((3 : Int32) * v4).toNatClampNeg) rfl dX8_isMeeting_39 g1 ?_
    obtain ⟨x1, e1, h⟩ := bnd_some h
    refine h_nmv e1 ?_
    refine h_istore dX8_isMeeting_40 (by decide) rfl ?_
    refine h_aload_n dX8_isMeeting_42 rfl ?_
    refine g_X8_79  dX8_isMeeting_43 ?_
    refine h_iconst (3 : Int32) dX8_isMeeting_46 k_iconst_3 ?_
    refine h_iload dX8_isMeeting_47 rfl ?_
    refine h_imul dX8_isMeeting_49 ?_
    refine h_iconst (2 : Int32) dX8_isMeeting_50 k_iconst_2 ?_
    refine h_iadd dX8_isMeeting_51 ?_
    obtain ⟨g2, h⟩ := gd_some h
    refine al_64  ((((3 : Int32) * v4) + (2 : Int32)).toNatClampNeg) rfl dX8_isMeeting_52 g2 ?_
    obtain ⟨x2, e2, h⟩ := bnd_some h
    refine h_nmv e2 ?_
    refine h_istore dX8_isMeeting_53 (by decide) rfl ?_
    refine h_aload_n dX8_isMeeting_55 rfl ?_
    refine g_X8_79  dX8_isMeeting_56 ?_
    refine h_iconst (3 : Int32) dX8_isMeeting_59 k_iconst_3 ?_
    refine h_iload dX8_isMeeting_60 rfl ?_
    refine h_imul dX8_isMeeting_62 ?_
    refine h_iconst (1 : Int32) dX8_isMeeting_63 k_iconst_1 ?_
    refine h_iadd dX8_isMeeting_64 ?_
    obtain ⟨g3, h⟩ := gd_some h
    refine al_64  ((((3 : Int32) * v4) + (1 : Int32)).toNatClampNeg) rfl dX8_isMeeting_65 g3 ?_
    refine h_iload_n dX8_isMeeting_66 rfl ?_
    refine h_icmp_ne (tgt := 104) dX8_isMeeting_67 (by decide) (fun q2 => ?_) (fun q2 => ?_)
    · rw [if_neg q2] at h
      refine h_iinc (1 : Int32) dX8_isMeeting_104 rfl k_iinc_1 (by decide) rfl ?_
      refine h_goto (tgt := 22) dX8_isMeeting_107 (by decide) ?_
      exact h_mask [true, true, true, true, true, false, false] (H22 _ _ _ _ h)
    · rw [if_pos q2] at h
      refine h_aload_n dX8_isMeeting_70 rfl ?_
      refine g_X8_70  dX8_isMeeting_71 ?_
      refine h_iload_n dX8_isMeeting_74 rfl ?_
      refine h_iload dX8_isMeeting_75 rfl ?_
      obtain ⟨y1, hh1, h⟩ := obd_some h
      refine h_cSi [.inl v1, .inl x1] (m_X8_couple  hh1) cs_X8_276 dX8_isMeeting_77 rfl (by decide) rfl (Or.inr rfl) rfl ?_
      obtain ⟨g4, h⟩ := gd_some h
      refine al_61  y1.toNatClampNeg rfl dX8_isMeeting_80 g4 ?_
      refine h_iload dX8_isMeeting_81 rfl ?_
      refine h_icmp_gt (tgt := 104) dX8_isMeeting_83 (by decide) (fun q3 => ?_) (fun q3 => ?_)
      · rw [if_pos q3] at h
        refine h_iinc (1 : Int32) dX8_isMeeting_104 rfl k_iinc_1 (by decide) rfl ?_
        refine h_goto (tgt := 22) dX8_isMeeting_107 (by decide) ?_
        exact h_mask [true, true, true, true, true, false, false] (H22 _ _ _ _ h)
      · rw [if_neg q3] at h
        refine h_aload_n dX8_isMeeting_86 rfl ?_
        refine g_X8_70  dX8_isMeeting_87 ?_
        refine h_iload_n dX8_isMeeting_90 rfl ?_
        refine h_iload dX8_isMeeting_91 rfl ?_
        obtain ⟨y2, hh2, h⟩ := obd_some h
        refine h_cSi [.inl v2, .inl x1] (m_X8_couple  hh2) cs_X8_276 dX8_isMeeting_93 rfl (by decide) rfl (Or.inr rfl) rfl ?_
        obtain ⟨g5, h⟩ := gd_some h
        refine al_61  y2.toNatClampNeg rfl dX8_isMeeting_96 g5 ?_
        refine h_iload dX8_isMeeting_97 rfl ?_
        refine h_icmp_gt (tgt := 104) dX8_isMeeting_99 (by decide) (fun q4 => ?_) (fun q4 => ?_)
        · rw [if_pos q4] at h
          refine h_iinc (1 : Int32) dX8_isMeeting_104 rfl k_iinc_1 (by decide) rfl ?_
          refine h_goto (tgt := 22) dX8_isMeeting_107 (by decide) ?_
          exact h_mask [true, true, true, true, true, false, false] (H22 _ _ _ _ h)
        · rw [if_neg q4] at h
          refine h_iconst (1 : Int32) dX8_isMeeting_102 k_iconst_1 ?_
          cases h
          exact h_zret dX8_isMeeting_103 rfl rfl E
def f_X8_isMeeting_19  (I : Mem) (v1 : Int32) (v2 : Int32) (v3 : Int32) : Option (Int32) :=
  f_X8_isMeeting_22 I FU v1 v2 v3 (0 : Int32)
theorem b_X8_isMeeting_19 (X : CX) (Q : State → Prop) {I : Mem} {P : PMem} {O : Nat → Int64} {D : Bool} {n : Nat} {v1 : Int32} {v2 : Int32} {v3 : Int32} {r : (Int32)}  (h : f_X8_isMeeting_19 I v1 v2 v3 = some r) (E : EndR X cX8_isMeeting RX8 7 (some .boolean) 3 n (some (.inl r)) I P O D Q) : Here X cX8_isMeeting RX8 7 (some .boolean) 3 n 19 [some (.inr (.inr (8, 0, 0))), some (.inl v1), some (.inl v2), some (.inl v3), none, none, none] [] I P O D n Q := by
  unfold f_X8_isMeeting_19 at h
  refine h_iconst (0 : Int32) dX8_isMeeting_19 k_iconst_0 ?_
  refine h_istore dX8_isMeeting_20 (by decide) rfl ?_
  exact (b_X8_isMeeting_22 X Q FU  h E)
def f_X8_isMeeting  (I : Mem) (v1 : Int32) (v2 : Int32) (v3 : Int32) : Option (Int32) :=
  if v1 = v2 then (if ((jshr (I 8 0 0 29) v1) &&& (1 : Int32)) = (1 : Int32) then (some (1 : Int32)) else (f_X8_isMeeting_19 I v1 v2 v3)) else (f_X8_isMeeting_19 I v1 v2 v3)
theorem b_X8_isMeeting (X : CX) (Q : State → Prop) {I : Mem} {P : PMem} {O : Nat → Int64} {D : Bool} {n : Nat} {v1 : Int32} {v2 : Int32} {v3 : Int32} {r : (Int32)}  (h : f_X8_isMeeting I v1 v2 v3 = some r) (E : EndR X cX8_isMeeting RX8 7 (some .boolean) 3 n (some (.inl r)) I P O D Q) : Here X cX8_isMeeting RX8 7 (some .boolean) 3 n 0 [some (.inr (.inr (8, 0, 0))), some (.inl v1), some (.inl v2), some (.inl v3), none, none, none] [] I P O D n Q := by
  unfold f_X8_isMeeting at h
  refine h_iload_n dX8_isMeeting_0 rfl ?_
  refine h_iload_n dX8_isMeeting_1 rfl ?_
  refine h_icmp_ne (tgt := 19) dX8_isMeeting_2 (by decide) (fun q1 => ?_) (fun q1 => ?_)
  · rw [if_neg q1] at h
    exact (b_X8_isMeeting_19 X Q  h E)
  · rw [if_pos q1] at h
    refine h_aload_n dX8_isMeeting_5 rfl ?_
    refine g_X8_311  dX8_isMeeting_6 ?_
    refine h_iload_n dX8_isMeeting_9 rfl ?_
    refine h_shr dX8_isMeeting_10 ?_
    refine h_iconst (1 : Int32) dX8_isMeeting_11 k_iconst_1 ?_
    refine h_iand dX8_isMeeting_12 ?_
    refine h_iconst (1 : Int32) dX8_isMeeting_13 k_iconst_1 ?_
    refine h_icmp_ne (tgt := 19) dX8_isMeeting_14 (by decide) (fun q2 => ?_) (fun q2 => ?_)
    · rw [if_neg q2] at h
      exact (b_X8_isMeeting_19 X Q  h E)
    · rw [if_pos q2] at h
      refine h_iconst (1 : Int32) dX8_isMeeting_17 k_iconst_1 ?_
      cases h
      exact h_zret dX8_isMeeting_18 rfl rfl E
theorem m_X8_isMeeting {I : Mem} {P : PMem} {O : Nat → Int64} {D : Bool} {n : Nat} {v1 : Int32} {v2 : Int32} {v3 : Int32} {r : (Int32)}  (h : f_X8_isMeeting I v1 v2 v3 = some r) : MethR yX8_isMeeting cX8_isMeeting 7 (some .boolean) 3 [.inr (.inr (8, 0, 0)), .inl v1, .inl v2, .inl v3] I P O D n (some (.inl r)) I P O D n := meth_R (Nat.le_refl _) (by decide) rfl (Nat.le_of_ble_eq_true rfl) rfl (fun X Q E => b_X8_isMeeting X Q  h E)
def f_X8_tellMeetings_45 (k14 : Mem → Int32 → Int32 → Option (Mem))  : Nat → Mem → Int32 → Int32 → Int32 → Option (Mem)
  | 0, _, _, _, _ => none
  | fu + 1, I, v1, v2, v3 =>
    if v3 < 0 then (k14 I v1 (v2 + (1 : Int32))) else (gd (inb (((7 : Int32) * v1) + v3) 35) <|
    bnd (I 69 0 0 ((((7 : Int32) * v1) + v3).toNatClampNeg)) fun x1 =>
    (f_X8_townOn I v2 x1).bind fun y1 =>
    if y1 = (-1 : Int32) then ((f_X8_tellMeetings_45 k14 fu) I v1 v2 (v3 + (-1 : Int32))) else ((f_X8_isMeeting I (I 68 0 0 ((((7 : Int32) * v1) + v3).toNatClampNeg)) y1 x1).bind fun y2 =>
    if y2 = 0 then ((f_X8_tellMeetings_45 k14 fu) I v1 v2 (v3 + (-1 : Int32))) else (gd (inb (((5 : Int32) * v1) + v2) 25) <|
    bnd (upd4 I 70 0 0 ((((5 : Int32) * v1) + v2).toNatClampNeg) x1) fun I1' =>
    (f_X8_tellMeetings_45 k14 fu) I1' v1 v2 (v3 + (-1 : Int32)))))
theorem b_X8_tellMeetings_45 (X : CX) (Q : State → Prop) {P : PMem} {O : Nat → Int64} {D : Bool} {n : Nat} {k14 : Mem → Int32 → Int32 → Option (Mem)} {r : (Mem)}  (H14 : ∀ (I : Mem) (v1 : Int32) (v2 : Int32), k14 I v1 v2 = some r → Here X cX8_tellMeetings RX8 6 (none) 4 n 14 [some (.inr (.inr (8, 0, 0))), some (.inl v1), some (.inl v2), none, none, none] [] I P O D n Q) : ∀ (fu : Nat) {I : Mem} {v1 : Int32} {v2 : Int32} {v3 : Int32}, f_X8_tellMeetings_45 k14 fu I v1 v2 v3 = some r → EndR X cX8_tellMeetings RX8 6 (none) 4 n none r P O D Q → Here X cX8_tellMeetings RX8 6 (none) 4 n 45 [some (.inr (.inr (8, 0, 0))), some (.inl v1), some (.inl v2), some (.inl v3), none, none] [] I P O D n Q := by
  intro fu
  induction fu with
  | zero => intro I v1 v2 v3 h E; cases h
  | succ fu ih =>
  intro I v1 v2 v3 h E
  have H45 : ∀ (I : Mem) (v1 : Int32) (v2 : Int32) (v3 : Int32), f_X8_tellMeetings_45 k14 fu I v1 v2 v3 = some r → Here X cX8_tellMeetings RX8 6 (none) 4 n 45 [some (.inr (.inr (8, 0, 0))), some (.inl v1), some (.inl v2), some (.inl v3), none, none] [] I P O D n Q := fun _ _ _ _ b => ih b E
  simp only [f_X8_tellMeetings_45] at h
  refine h_iload_n dX8_tellMeetings_45 rfl ?_
  refine h_if_lt (tgt := 117) dX8_tellMeetings_46 (by decide) (fun q1 => ?_) (fun q1 => ?_)
  · rw [if_pos q1] at h
    refine h_iinc (1 : Int32) dX8_tellMeetings_117 rfl k_iinc_1 (by decide) rfl ?_
    refine h_goto (tgt := 14) dX8_tellMeetings_120 (by decide) ?_
    exact h_mask [true, true, true, false, false, false] (H14 _ _ _ h)
  · rw [if_neg q1] at h
    refine h_aload_n dX8_tellMeetings_49 rfl ?_
    refine g_X8_94  dX8_tellMeetings_50 ?_
    refine h_bipush (7 : Int32) dX8_tellMeetings_53 k_bipush_7 ?_
    refine h_iload_n dX8_tellMeetings_55 rfl ?_
    refine h_imul dX8_tellMeetings_56 ?_
    refine h_iload_n dX8_tellMeetings_57 rfl ?_
    refine h_iadd dX8_tellMeetings_58 ?_
    obtain ⟨g1, h⟩ := gd_some h
    refine al_69  ((((7 : Int32) * v1) + v3).toNatClampNeg) rfl dX8_tellMeetings_59 g1 ?_
    obtain ⟨x1, e1, h⟩ := bnd_some h
    refine h_nmv e1 ?_
    refine h_istore dX8_tellMeetings_60 (by decide) rfl ?_
    refine h_aload_n dX8_tellMeetings_62 rfl ?_
    refine h_iload_n dX8_tellMeetings_63 rfl ?_
    refine h_iload dX8_tellMeetings_64 rfl ?_
    obtain ⟨y1, hh1, h⟩ := obd_some h
    refine h_cVi [.inl v2, .inl x1] (m_X8_townOn  hh1) cw_X8_346 dX8_tellMeetings_66 rfl ok_8 (by decide) rfl (Or.inr rfl) rfl ?_
    refine h_istore dX8_tellMeetings_69 (by decide) rfl ?_
    refine h_iload dX8_tellMeetings_71 rfl ?_
    refine h_iconst (-1 : Int32) dX8_tellMeetings_73 k_iconst_m1 ?_
    refine h_icmp_eq (tgt := 111) dX8_tellMeetings_74 (by decide) (fun q2 => ?_) (fun q2 => ?_)
    · rw [if_pos q2] at h
      refine h_iinc (-1 : Int32) dX8_tellMeetings_111 rfl k_iinc_m1 (by decide) rfl ?_
      refine h_goto (tgt := 45) dX8_tellMeetings_114 (by decide) ?_
      exact h_mask [true, true, true, true, false, false] (H45 _ _ _ _ h)
    · rw [if_neg q2] at h
      refine h_aload_n dX8_tellMeetings_77 rfl ?_
      refine h_aload_n dX8_tellMeetings_78 rfl ?_
      refine g_X8_91  dX8_tellMeetings_79 ?_
      refine h_bipush (7 : Int32) dX8_tellMeetings_82 k_bipush_7 ?_
      refine h_iload_n dX8_tellMeetings_84 rfl ?_
      refine h_imul dX8_tellMeetings_85 ?_
      refine h_iload_n dX8_tellMeetings_86 rfl ?_
      refine h_iadd dX8_tellMeetings_87 ?_
      refine al_68  ((((7 : Int32) * v1) + v3).toNatClampNeg) rfl dX8_tellMeetings_88 g1 ?_
      refine h_iload dX8_tellMeetings_89 rfl ?_
      refine h_iload dX8_tellMeetings_91 rfl ?_
      obtain ⟨y2, hh2, h⟩ := obd_some h
      refine h_cVi [.inl (I 68 0 0 ((((7 : Int32) * v1) + v3).toNatClampNeg)), .inl y1, .inl x1] (m_X8_isMeeting  hh2) cw_X8_349 dX8_tellMeetings_93 rfl ok_8 (by decide) rfl (Or.inr rfl) rfl ?_
      refine h_if_eq (tgt := 111) dX8_tellMeetings_96 (by decide) (fun q3 => ?_) (fun q3 => ?_)
      · rw [if_pos q3] at h
        refine h_iinc (-1 : Int32) dX8_tellMeetings_111 rfl k_iinc_m1 (by decide) rfl ?_
        refine h_goto (tgt := 45) dX8_tellMeetings_114 (by decide) ?_
        exact h_mask [true, true, true, true, false, false] (H45 _ _ _ _ h)
      · rw [if_neg q3] at h
        refine h_aload_n dX8_tellMeetings_99 rfl ?_
        refine g_X8_97  dX8_tellMeetings_100 ?_
        refine h_iconst (5 : Int32) dX8_tellMeetings_103 k_iconst_5 ?_
        refine h_iload_n dX8_tellMeetings_104 rfl ?_
        refine h_imul dX8_tellMeetings_105 ?_
        refine h_iload_n dX8_tellMeetings_106 rfl ?_
        refine h_iadd dX8_tellMeetings_107 ?_
        refine h_iload dX8_tellMeetings_108 rfl ?_
        obtain ⟨g2, h⟩ := gd_some h
        obtain ⟨I1', e2, h⟩ := bnd_some h
        refine as_70  ((((5 : Int32) * v1) + v2).toNatClampNeg) rfl dX8_tellMeetings_110 g2 ?_
        refine h_nmI e2 ?_
        refine h_iinc (-1 : Int32) dX8_tellMeetings_111 rfl k_iinc_m1 (by decide) rfl ?_
        refine h_goto (tgt := 45) dX8_tellMeetings_114 (by decide) ?_
        exact h_mask [true, true, true, true, false, false] (H45 _ _ _ _ h)
def f_X8_tellMeetings_14 (k2 : Mem → Int32 → Option (Mem))  : Nat → Mem → Int32 → Int32 → Option (Mem)
  | 0, _, _, _ => none
  | fu + 1, I, v1, v2 =>
    if (I 50 0 0 4) ≤ v2 then (k2 I (v1 + (1 : Int32))) else (gd (inb (((5 : Int32) * v1) + v2) 25) <|
    bnd (upd4 I 70 0 0 ((((5 : Int32) * v1) + v2).toNatClampNeg) (100000 : Int32)) fun I1' =>
    gd (inb v1 10) <|
    bnd ((I1' 55 0 0 v1.toNatClampNeg) - (1 : Int32)) fun x1 =>
    f_X8_tellMeetings_45 (f_X8_tellMeetings_14 k2 fu) FU I1' v1 v2 x1)
theorem b_X8_tellMeetings_14 (X : CX) (Q : State → Prop) {P : PMem} {O : Nat → Int64} {D : Bool} {n : Nat} {k2 : Mem → Int32 → Option (Mem)} {r : (Mem)}  (H2 : ∀ (I : Mem) (v1 : Int32), k2 I v1 = some r → Here X cX8_tellMeetings RX8 6 (none) 4 n 2 [some (.inr (.inr (8, 0, 0))), some (.inl v1), none, none, none, none] [] I P O D n Q) : ∀ (fu : Nat) {I : Mem} {v1 : Int32} {v2 : Int32}, f_X8_tellMeetings_14 k2 fu I v1 v2 = some r → EndR X cX8_tellMeetings RX8 6 (none) 4 n none r P O D Q → Here X cX8_tellMeetings RX8 6 (none) 4 n 14 [some (.inr (.inr (8, 0, 0))), some (.inl v1), some (.inl v2), none, none, none] [] I P O D n Q := by
  intro fu
  induction fu with
  | zero => intro I v1 v2 h E; cases h
  | succ fu ih =>
  intro I v1 v2 h E
  have H14 : ∀ (I : Mem) (v1 : Int32) (v2 : Int32), f_X8_tellMeetings_14 k2 fu I v1 v2 = some r → Here X cX8_tellMeetings RX8 6 (none) 4 n 14 [some (.inr (.inr (8, 0, 0))), some (.inl v1), some (.inl v2), none, none, none] [] I P O D n Q := fun _ _ _ b => ih b E
  simp only [f_X8_tellMeetings_14] at h
  refine h_iload_n dX8_tellMeetings_14 rfl ?_
  refine h_aload_n dX8_tellMeetings_15 rfl ?_
  refine g_X8_34  dX8_tellMeetings_16 ?_
  refine h_iconst (4 : Int32) dX8_tellMeetings_19 k_iconst_4 ?_
  refine al_50  4 cl_4 dX8_tellMeetings_20 rfl ?_
  refine h_icmp_ge (tgt := 123) dX8_tellMeetings_21 (by decide) (fun q1 => ?_) (fun q1 => ?_)
  · rw [if_pos q1] at h
    refine h_iinc (1 : Int32) dX8_tellMeetings_123 rfl k_iinc_1 (by decide) rfl ?_
    refine h_goto (tgt := 2) dX8_tellMeetings_126 (by decide) ?_
    exact h_mask [true, true, false, false, false, false] (H2 _ _ h)
  · rw [if_neg q1] at h
    refine h_aload_n dX8_tellMeetings_24 rfl ?_
    refine g_X8_97  dX8_tellMeetings_25 ?_
    refine h_iconst (5 : Int32) dX8_tellMeetings_28 k_iconst_5 ?_
    refine h_iload_n dX8_tellMeetings_29 rfl ?_
    refine h_imul dX8_tellMeetings_30 ?_
    refine h_iload_n dX8_tellMeetings_31 rfl ?_
    refine h_iadd dX8_tellMeetings_32 ?_
    refine h_ldci (100000 : Int32) dX8_tellMeetings_33 kc_X8_186 ?_
    obtain ⟨g1, h⟩ := gd_some h
    obtain ⟨I1', e1, h⟩ := bnd_some h
    refine as_70  ((((5 : Int32) * v1) + v2).toNatClampNeg) rfl dX8_tellMeetings_35 g1 ?_
    refine h_nmI e1 ?_
    refine h_aload_n dX8_tellMeetings_36 rfl ?_
    refine g_X8_49  dX8_tellMeetings_37 ?_
    refine h_iload_n dX8_tellMeetings_40 rfl ?_
    obtain ⟨g2, h⟩ := gd_some h
    refine al_55  v1.toNatClampNeg rfl dX8_tellMeetings_41 g2 ?_
    refine h_iconst (1 : Int32) dX8_tellMeetings_42 k_iconst_1 ?_
    refine h_isub dX8_tellMeetings_43 ?_
    obtain ⟨x1, e2, h⟩ := bnd_some h
    refine h_nmv e2 ?_
    refine h_istore_n dX8_tellMeetings_44 (by decide) rfl ?_
    exact (b_X8_tellMeetings_45 X Q H14 FU  h E)
def f_X8_tellMeetings_2   : Nat → Mem → Int32 → Option (Mem)
  | 0, _, _ => none
  | fu + 1, I, v1 =>
    if (I 50 0 0 4) ≤ v1 then (some I) else (f_X8_tellMeetings_14 (f_X8_tellMeetings_2 fu) FU I v1 (0 : Int32))
theorem b_X8_tellMeetings_2 (X : CX) (Q : State → Prop) {P : PMem} {O : Nat → Int64} {D : Bool} {n : Nat} {r : (Mem)}  : ∀ (fu : Nat) {I : Mem} {v1 : Int32}, f_X8_tellMeetings_2 fu I v1 = some r → EndR X cX8_tellMeetings RX8 6 (none) 4 n none r P O D Q → Here X cX8_tellMeetings RX8 6 (none) 4 n 2 [some (.inr (.inr (8, 0, 0))), some (.inl v1), none, none, none, none] [] I P O D n Q := by
  intro fu
  induction fu with
  | zero => intro I v1 h E; cases h
  | succ fu ih =>
  intro I v1 h E
  have H2 : ∀ (I : Mem) (v1 : Int32), f_X8_tellMeetings_2 fu I v1 = some r → Here X cX8_tellMeetings RX8 6 (none) 4 n 2 [some (.inr (.inr (8, 0, 0))), some (.inl v1), none, none, none, none] [] I P O D n Q := fun _ _ b => ih b E
  simp only [f_X8_tellMeetings_2] at h
  refine h_iload_n dX8_tellMeetings_2 rfl ?_
  refine h_aload_n dX8_tellMeetings_3 rfl ?_
  refine g_X8_34  dX8_tellMeetings_4 ?_
  refine h_iconst (4 : Int32) dX8_tellMeetings_7 k_iconst_4 ?_
  refine al_50  4 cl_4 dX8_tellMeetings_8 rfl ?_
  refine h_icmp_ge (tgt := 129) dX8_tellMeetings_9 (by decide) (fun q1 => ?_) (fun q1 => ?_)
  · rw [if_pos q1] at h
    cases h
    exact h_vret dX8_tellMeetings_129 rfl E
  · rw [if_neg q1] at h
    refine h_iconst (0 : Int32) dX8_tellMeetings_12 k_iconst_0 ?_
    refine h_istore_n dX8_tellMeetings_13 (by decide) rfl ?_
    exact (b_X8_tellMeetings_14 X Q H2 FU  h E)
def f_X8_tellMeetings   (I : Mem) : Option (Mem) :=
  f_X8_tellMeetings_2 FU I (0 : Int32)
theorem b_X8_tellMeetings (X : CX) (Q : State → Prop) {I : Mem} {P : PMem} {O : Nat → Int64} {D : Bool} {n : Nat} {r : (Mem)}  (h : f_X8_tellMeetings I = some r) (E : EndR X cX8_tellMeetings RX8 6 (none) 4 n none r P O D Q) : Here X cX8_tellMeetings RX8 6 (none) 4 n 0 [some (.inr (.inr (8, 0, 0))), none, none, none, none, none] [] I P O D n Q := by
  unfold f_X8_tellMeetings at h
  refine h_iconst (0 : Int32) dX8_tellMeetings_0 k_iconst_0 ?_
  refine h_istore_n dX8_tellMeetings_1 (by decide) rfl ?_
  exact (b_X8_tellMeetings_2 X Q FU  h E)
theorem m_X8_tellMeetings {I : Mem} {P : PMem} {O : Nat → Int64} {D : Bool} {n : Nat}  {r : (Mem)}  (h : f_X8_tellMeetings I = some r) : MethR yX8_tellMeetings cX8_tellMeetings 6 (none) 4 [.inr (.inr (8, 0, 0))] I P O D n none r P O D n := meth_R (Nat.le_refl _) (by decide) rfl (Nat.le_of_ble_eq_true rfl) rfl (fun X Q E => b_X8_tellMeetings X Q  h E)
def f_X8_isFeast_2  (I : Mem) : Nat → Int32 → Int32 → Int32 → Option (Int32)
  | 0, _, _, _ => none
  | fu + 1, v1, v2, v3 =>
    if (I 8 0 0 31) ≤ v3 then (some (0 : Int32)) else (gd (inb ((3 : Int32) * v3) 12) <|
    if (I 63 0 0 (((3 : Int32) * v3).toNatClampNeg)) = v1 then (gd (inb (((3 : Int32) * v3) + (1 : Int32)) 12) <|
    if v2 < (I 63 0 0 ((((3 : Int32) * v3) + (1 : Int32)).toNatClampNeg)) then ((f_X8_isFeast_2 I fu) v1 v2 (v3 + (1 : Int32))) else (gd (inb (((3 : Int32) * v3) + (2 : Int32)) 12) <|
    if (I 63 0 0 ((((3 : Int32) * v3) + (2 : Int32)).toNatClampNeg)) < v2 then ((f_X8_isFeast_2 I fu) v1 v2 (v3 + (1 : Int32))) else (some (1 : Int32)))) else ((f_X8_isFeast_2 I fu) v1 v2 (v3 + (1 : Int32))))
theorem b_X8_isFeast_2 (X : CX) (Q : State → Prop) {I : Mem} {P : PMem} {O : Nat → Int64} {D : Bool} {n : Nat} {r : (Int32)}  : ∀ (fu : Nat) {v1 : Int32} {v2 : Int32} {v3 : Int32}, f_X8_isFeast_2 I fu v1 v2 v3 = some r → EndR X cX8_isFeast RX8 4 (some .boolean) 2 n (some (.inl r)) I P O D Q → Here X cX8_isFeast RX8 4 (some .boolean) 2 n 2 [some (.inr (.inr (8, 0, 0))), some (.inl v1), some (.inl v2), some (.inl v3)] [] I P O D n Q := by
  intro fu
  induction fu with
  | zero => intro v1 v2 v3 h E; cases h
  | succ fu ih =>
  intro v1 v2 v3 h E
  have H2 : ∀ (v1 : Int32) (v2 : Int32) (v3 : Int32), f_X8_isFeast_2 I fu v1 v2 v3 = some r → Here X cX8_isFeast RX8 4 (some .boolean) 2 n 2 [some (.inr (.inr (8, 0, 0))), some (.inl v1), some (.inl v2), some (.inl v3)] [] I P O D n Q := fun _ _ _ b => ih b E
  simp only [f_X8_isFeast_2] at h
  refine h_iload_n dX8_isFeast_2 rfl ?_
  refine h_aload_n dX8_isFeast_3 rfl ?_
  refine g_X8_317  dX8_isFeast_4 ?_
  refine h_icmp_ge (tgt := 58) dX8_isFeast_7 (by decide) (fun q1 => ?_) (fun q1 => ?_)
  · rw [if_pos q1] at h
    refine h_iconst (0 : Int32) dX8_isFeast_58 k_iconst_0 ?_
    cases h
    exact h_zret dX8_isFeast_59 rfl rfl E
  · rw [if_neg q1] at h
    refine h_aload_n dX8_isFeast_10 rfl ?_
    refine g_X8_76  dX8_isFeast_11 ?_
    refine h_iconst (3 : Int32) dX8_isFeast_14 k_iconst_3 ?_
    refine h_iload_n dX8_isFeast_15 rfl ?_
    refine h_imul dX8_isFeast_16 ?_
    obtain ⟨g1, h⟩ := gd_some h
    refine al_63  (((3 : Int32) * v3).toNatClampNeg) rfl dX8_isFeast_17 g1 ?_
    refine h_iload_n dX8_isFeast_18 rfl ?_
    refine h_icmp_ne (tgt := 52) dX8_isFeast_19 (by decide) (fun q2 => ?_) (fun q2 => ?_)
    · rw [if_neg q2] at h
      refine h_iinc (1 : Int32) dX8_isFeast_52 rfl k_iinc_1 (by decide) rfl ?_
      refine h_goto (tgt := 2) dX8_isFeast_55 (by decide) ?_
      exact (H2 _ _ _ h)
    · rw [if_pos q2] at h
      refine h_iload_n dX8_isFeast_22 rfl ?_
      refine h_aload_n dX8_isFeast_23 rfl ?_
      refine g_X8_76  dX8_isFeast_24 ?_
      refine h_iconst (3 : Int32) dX8_isFeast_27 k_iconst_3 ?_
      refine h_iload_n dX8_isFeast_28 rfl ?_
      refine h_imul dX8_isFeast_29 ?_
      refine h_iconst (1 : Int32) dX8_isFeast_30 k_iconst_1 ?_
      refine h_iadd dX8_isFeast_31 ?_
      obtain ⟨g2, h⟩ := gd_some h
      refine al_63  ((((3 : Int32) * v3) + (1 : Int32)).toNatClampNeg) rfl dX8_isFeast_32 g2 ?_
      refine h_icmp_lt (tgt := 52) dX8_isFeast_33 (by decide) (fun q3 => ?_) (fun q3 => ?_)
      · rw [if_pos q3] at h
        refine h_iinc (1 : Int32) dX8_isFeast_52 rfl k_iinc_1 (by decide) rfl ?_
        refine h_goto (tgt := 2) dX8_isFeast_55 (by decide) ?_
        exact (H2 _ _ _ h)
      · rw [if_neg q3] at h
        refine h_iload_n dX8_isFeast_36 rfl ?_
        refine h_aload_n dX8_isFeast_37 rfl ?_
        refine g_X8_76  dX8_isFeast_38 ?_
        refine h_iconst (3 : Int32) dX8_isFeast_41 k_iconst_3 ?_
        refine h_iload_n dX8_isFeast_42 rfl ?_
        refine h_imul dX8_isFeast_43 ?_
        refine h_iconst (2 : Int32) dX8_isFeast_44 k_iconst_2 ?_
        refine h_iadd dX8_isFeast_45 ?_
        obtain ⟨g3, h⟩ := gd_some h
        refine al_63  ((((3 : Int32) * v3) + (2 : Int32)).toNatClampNeg) rfl dX8_isFeast_46 g3 ?_
        refine h_icmp_gt (tgt := 52) dX8_isFeast_47 (by decide) (fun q4 => ?_) (fun q4 => ?_)
        · rw [if_pos q4] at h
          refine h_iinc (1 : Int32) dX8_isFeast_52 rfl k_iinc_1 (by decide) rfl ?_
          refine h_goto (tgt := 2) dX8_isFeast_55 (by decide) ?_
          exact (H2 _ _ _ h)
        · rw [if_neg q4] at h
          refine h_iconst (1 : Int32) dX8_isFeast_50 k_iconst_1 ?_
          cases h
          exact h_zret dX8_isFeast_51 rfl rfl E
def f_X8_isFeast  (I : Mem) (v1 : Int32) (v2 : Int32) : Option (Int32) :=
  f_X8_isFeast_2 I FU v1 v2 (0 : Int32)
theorem b_X8_isFeast (X : CX) (Q : State → Prop) {I : Mem} {P : PMem} {O : Nat → Int64} {D : Bool} {n : Nat} {v1 : Int32} {v2 : Int32} {r : (Int32)}  (h : f_X8_isFeast I v1 v2 = some r) (E : EndR X cX8_isFeast RX8 4 (some .boolean) 2 n (some (.inl r)) I P O D Q) : Here X cX8_isFeast RX8 4 (some .boolean) 2 n 0 [some (.inr (.inr (8, 0, 0))), some (.inl v1), some (.inl v2), none] [] I P O D n Q := by
  unfold f_X8_isFeast at h
  refine h_iconst (0 : Int32) dX8_isFeast_0 k_iconst_0 ?_
  refine h_istore_n dX8_isFeast_1 (by decide) rfl ?_
  exact (b_X8_isFeast_2 X Q FU  h E)
theorem m_X8_isFeast {I : Mem} {P : PMem} {O : Nat → Int64} {D : Bool} {n : Nat} {v1 : Int32} {v2 : Int32} {r : (Int32)}  (h : f_X8_isFeast I v1 v2 = some r) : MethR yX8_isFeast cX8_isFeast 4 (some .boolean) 2 [.inr (.inr (8, 0, 0)), .inl v1, .inl v2] I P O D n (some (.inl r)) I P O D n := meth_R (Nat.le_refl _) (by decide) rfl (Nat.le_of_ble_eq_true rfl) rfl (fun X Q E => b_X8_isFeast X Q  h E)
def f_X8_saidAhead_5  (I : Mem) : Nat → Int32 → Int32 → Int32 → Int32 → Option (Int32)
  | 0, _, _, _, _ => none
  | fu + 1, v1, v2, v3, v4 =>
    if (I 50 0 0 4) ≤ v4 then (some v3) else (gd (inb (((5 : Int32) * v1) + v4) 30) <|
    if (I 71 0 0 ((((5 : Int32) * v1) + v4).toNatClampNeg)) = (-1 : Int32) then (bnd (v3 + (0 : Int32)) fun x1 =>
    (f_X8_saidAhead_5 I fu) v1 v2 x1 (v4 + (1 : Int32))) else (if v2 ≤ (I 72 0 0 ((((5 : Int32) * v1) + v4).toNatClampNeg)) then (bnd (v3 + (0 : Int32)) fun x2 =>
    (f_X8_saidAhead_5 I fu) v1 v2 x2 (v4 + (1 : Int32))) else (bnd (v3 + (1 : Int32)) fun x3 =>
    (f_X8_saidAhead_5 I fu) v1 v2 x3 (v4 + (1 : Int32)))))
theorem b_X8_saidAhead_5 (X : CX) (Q : State → Prop) {I : Mem} {P : PMem} {O : Nat → Int64} {D : Bool} {n : Nat} {r : (Int32)}  : ∀ (fu : Nat) {v1 : Int32} {v2 : Int32} {v3 : Int32} {v4 : Int32}, f_X8_saidAhead_5 I fu v1 v2 v3 v4 = some r → EndR X cX8_saidAhead RX8 5 (some .int) 2 n (some (.inl r)) I P O D Q → Here X cX8_saidAhead RX8 5 (some .int) 2 n 5 [some (.inr (.inr (8, 0, 0))), some (.inl v1), some (.inl v2), some (.inl v3), some (.inl v4)] [] I P O D n Q := by
  intro fu
  induction fu with
  | zero => intro v1 v2 v3 v4 h E; cases h
  | succ fu ih =>
  intro v1 v2 v3 v4 h E
  have H5 : ∀ (v1 : Int32) (v2 : Int32) (v3 : Int32) (v4 : Int32), f_X8_saidAhead_5 I fu v1 v2 v3 v4 = some r → Here X cX8_saidAhead RX8 5 (some .int) 2 n 5 [some (.inr (.inr (8, 0, 0))), some (.inl v1), some (.inl v2), some (.inl v3), some (.inl v4)] [] I P O D n Q := fun _ _ _ _ b => ih b E
  simp only [f_X8_saidAhead_5] at h
  refine h_iload dX8_saidAhead_5 rfl ?_
  refine h_aload_n dX8_saidAhead_7 rfl ?_
  refine g_X8_34  dX8_saidAhead_8 ?_
  refine h_iconst (4 : Int32) dX8_saidAhead_11 k_iconst_4 ?_
  refine al_50  4 cl_4 dX8_saidAhead_12 rfl ?_
  refine h_icmp_ge (tgt := 60) dX8_saidAhead_13 (by decide) (fun q1 => ?_) (fun q1 => ?_)
  · rw [if_pos q1] at h
    refine h_iload_n dX8_saidAhead_60 rfl ?_
    cases h
    exact h_iret dX8_saidAhead_61 rfl E
  · rw [if_neg q1] at h
    refine h_iload_n dX8_saidAhead_16 rfl ?_
    refine h_aload_n dX8_saidAhead_17 rfl ?_
    refine g_X8_106  dX8_saidAhead_18 ?_
    refine h_iconst (5 : Int32) dX8_saidAhead_21 k_iconst_5 ?_
    refine h_iload_n dX8_saidAhead_22 rfl ?_
    refine h_imul dX8_saidAhead_23 ?_
    refine h_iload dX8_saidAhead_24 rfl ?_
    refine h_iadd dX8_saidAhead_26 ?_
    obtain ⟨g1, h⟩ := gd_some h
    refine al_71  ((((5 : Int32) * v1) + v4).toNatClampNeg) rfl dX8_saidAhead_27 g1 ?_
    refine h_iconst (-1 : Int32) dX8_saidAhead_28 k_iconst_m1 ?_
    refine h_icmp_eq (tgt := 51) dX8_saidAhead_29 (by decide) (fun q2 => ?_) (fun q2 => ?_)
    · rw [if_pos q2] at h
      refine h_iconst (0 : Int32) dX8_saidAhead_51 k_iconst_0 ?_
      refine h_iadd dX8_saidAhead_52 ?_
      obtain ⟨x1, e1, h⟩ := bnd_some h
      refine h_nmv e1 ?_
      refine h_istore_n dX8_saidAhead_53 (by decide) rfl ?_
      refine h_iinc (1 : Int32) dX8_saidAhead_54 rfl k_iinc_1 (by decide) rfl ?_
      refine h_goto (tgt := 5) dX8_saidAhead_57 (by decide) ?_
      exact (H5 _ _ _ _ h)
    · rw [if_neg q2] at h
      refine h_aload_n dX8_saidAhead_32 rfl ?_
      refine g_X8_108  dX8_saidAhead_33 ?_
      refine h_iconst (5 : Int32) dX8_saidAhead_36 k_iconst_5 ?_
      refine h_iload_n dX8_saidAhead_37 rfl ?_
      refine h_imul dX8_saidAhead_38 ?_
      refine h_iload dX8_saidAhead_39 rfl ?_
      refine h_iadd dX8_saidAhead_41 ?_
      refine al_72  ((((5 : Int32) * v1) + v4).toNatClampNeg) rfl dX8_saidAhead_42 g1 ?_
      refine h_iload_n dX8_saidAhead_43 rfl ?_
      refine h_icmp_ge (tgt := 51) dX8_saidAhead_44 (by decide) (fun q3 => ?_) (fun q3 => ?_)
      · rw [if_pos q3] at h
        refine h_iconst (0 : Int32) dX8_saidAhead_51 k_iconst_0 ?_
        refine h_iadd dX8_saidAhead_52 ?_
        obtain ⟨x2, e2, h⟩ := bnd_some h
        refine h_nmv e2 ?_
        refine h_istore_n dX8_saidAhead_53 (by decide) rfl ?_
        refine h_iinc (1 : Int32) dX8_saidAhead_54 rfl k_iinc_1 (by decide) rfl ?_
        refine h_goto (tgt := 5) dX8_saidAhead_57 (by decide) ?_
        exact (H5 _ _ _ _ h)
      · rw [if_neg q3] at h
        refine h_iconst (1 : Int32) dX8_saidAhead_47 k_iconst_1 ?_
        refine h_goto (tgt := 52) dX8_saidAhead_48 (by decide) ?_
        refine h_iadd dX8_saidAhead_52 ?_
        obtain ⟨x3, e3, h⟩ := bnd_some h
        refine h_nmv e3 ?_
        refine h_istore_n dX8_saidAhead_53 (by decide) rfl ?_
        refine h_iinc (1 : Int32) dX8_saidAhead_54 rfl k_iinc_1 (by decide) rfl ?_
        refine h_goto (tgt := 5) dX8_saidAhead_57 (by decide) ?_
        exact (H5 _ _ _ _ h)
def f_X8_saidAhead  (I : Mem) (v1 : Int32) (v2 : Int32) : Option (Int32) :=
  f_X8_saidAhead_5 I FU v1 v2 (0 : Int32) (0 : Int32)
theorem b_X8_saidAhead (X : CX) (Q : State → Prop) {I : Mem} {P : PMem} {O : Nat → Int64} {D : Bool} {n : Nat} {v1 : Int32} {v2 : Int32} {r : (Int32)}  (h : f_X8_saidAhead I v1 v2 = some r) (E : EndR X cX8_saidAhead RX8 5 (some .int) 2 n (some (.inl r)) I P O D Q) : Here X cX8_saidAhead RX8 5 (some .int) 2 n 0 [some (.inr (.inr (8, 0, 0))), some (.inl v1), some (.inl v2), none, none] [] I P O D n Q := by
  unfold f_X8_saidAhead at h
  refine h_iconst (0 : Int32) dX8_saidAhead_0 k_iconst_0 ?_
  refine h_istore_n dX8_saidAhead_1 (by decide) rfl ?_
  refine h_iconst (0 : Int32) dX8_saidAhead_2 k_iconst_0 ?_
  refine h_istore dX8_saidAhead_3 (by decide) rfl ?_
  exact (b_X8_saidAhead_5 X Q FU  h E)
theorem m_X8_saidAhead {I : Mem} {P : PMem} {O : Nat → Int64} {D : Bool} {n : Nat} {v1 : Int32} {v2 : Int32} {r : (Int32)}  (h : f_X8_saidAhead I v1 v2 = some r) : MethR yX8_saidAhead cX8_saidAhead 5 (some .int) 2 [.inr (.inr (8, 0, 0)), .inl v1, .inl v2] I P O D n (some (.inl r)) I P O D n := meth_R (Nat.le_refl _) (by decide) rfl (Nat.le_of_ble_eq_true rfl) rfl (fun X Q E => b_X8_saidAhead X Q  h E)
def f_X8_holds_115   (I : Mem) (s0 : Int32) (s1 : Int32) : Option (Int32 × Mem) :=
  if s1 = s0 then (some ((0 : Int32), I)) else (some ((1 : Int32), I))
theorem b_X8_holds_115 (X : CX) (Q : State → Prop) {I : Mem} {P : PMem} {O : Nat → Int64} {D : Bool} {n : Nat} {s0 : Int32} {s1 : Int32} {r : (Int32 × Mem)}  (h : f_X8_holds_115 I s0 s1 = some r) (E : EndR X cX8_holds RX8 7 (some .boolean) 4 n (some (.inl r.1)) r.2 P O D Q) : Here X cX8_holds RX8 7 (some .boolean) 4 n 115 [none, none, none, none, none, none, none] [.inl s0, .inl s1] I P O D n Q := by
  unfold f_X8_holds_115 at h
  refine h_icmp_eq (tgt := 122) dX8_holds_115 (by decide) (fun q1 => ?_) (fun q1 => ?_)
  · rw [if_pos q1] at h
    refine h_iconst (0 : Int32) dX8_holds_122 k_iconst_0 ?_
    cases h
    exact h_zret dX8_holds_123 rfl rfl E
  · rw [if_neg q1] at h
    refine h_iconst (1 : Int32) dX8_holds_118 k_iconst_1 ?_
    refine h_goto (tgt := 123) dX8_holds_119 (by decide) ?_
    cases h
    exact h_zret dX8_holds_123 rfl rfl E
def f_X8_holds_98   (I : Mem) (v2 : Int32) (v6 : Int32) : Option (Int32 × Mem) :=
  gd (inb v2 10) <|
  if (I 52 0 0 v2.toNatClampNeg) = (2 : Int32) then (f_X8_holds_115 I (1 : Int32) v6) else (f_X8_holds_115 I (0 : Int32) v6)
theorem b_X8_holds_98 (X : CX) (Q : State → Prop) {I : Mem} {P : PMem} {O : Nat → Int64} {D : Bool} {n : Nat} {v2 : Int32} {v6 : Int32} {r : (Int32 × Mem)}  (h : f_X8_holds_98 I v2 v6 = some r) (E : EndR X cX8_holds RX8 7 (some .boolean) 4 n (some (.inl r.1)) r.2 P O D Q) : Here X cX8_holds RX8 7 (some .boolean) 4 n 98 [some (.inr (.inr (8, 0, 0))), none, some (.inl v2), none, none, none, some (.inl v6)] [] I P O D n Q := by
  unfold f_X8_holds_98 at h
  refine h_iload dX8_holds_98 rfl ?_
  refine h_aload_n dX8_holds_100 rfl ?_
  refine g_X8_41  dX8_holds_101 ?_
  refine h_iload_n dX8_holds_104 rfl ?_
  obtain ⟨g1, h⟩ := gd_some h
  refine al_52  v2.toNatClampNeg rfl dX8_holds_105 g1 ?_
  refine h_iconst (2 : Int32) dX8_holds_106 k_iconst_2 ?_
  refine h_icmp_ne (tgt := 114) dX8_holds_107 (by decide) (fun q1 => ?_) (fun q1 => ?_)
  · rw [if_neg q1] at h
    refine h_iconst (0 : Int32) dX8_holds_114 k_iconst_0 ?_
    exact h_mask [false, false, false, false, false, false, false] (b_X8_holds_115 X Q  h E)
  · rw [if_pos q1] at h
    refine h_iconst (1 : Int32) dX8_holds_110 k_iconst_1 ?_
    refine h_goto (tgt := 115) dX8_holds_111 (by decide) ?_
    exact h_mask [false, false, false, false, false, false, false] (b_X8_holds_115 X Q  h E)
def f_X8_holds_96   (I : Mem) (v2 : Int32) (s0 : Int32) : Option (Int32 × Mem) :=
  f_X8_holds_98 I v2 s0
theorem b_X8_holds_96 (X : CX) (Q : State → Prop) {I : Mem} {P : PMem} {O : Nat → Int64} {D : Bool} {n : Nat} {v2 : Int32} {s0 : Int32} {r : (Int32 × Mem)}  (h : f_X8_holds_96 I v2 s0 = some r) (E : EndR X cX8_holds RX8 7 (some .boolean) 4 n (some (.inl r.1)) r.2 P O D Q) : Here X cX8_holds RX8 7 (some .boolean) 4 n 96 [some (.inr (.inr (8, 0, 0))), none, some (.inl v2), none, none, none, none] [.inl s0] I P O D n Q := by
  unfold f_X8_holds_96 at h
  refine h_istore dX8_holds_96 (by decide) rfl ?_
  exact (b_X8_holds_98 X Q  h E)
def f_X8_holds_24   (I : Mem) (v1 : Int32) (v2 : Int32) (v3 : Int32) (v4 : Int32) (v5 : Int32) (s0 : Int32) : Option (Int32 × Mem) :=
  if (I 50 0 0 6) ≤ 0 then (f_X8_holds_98 I v2 s0) else (bnd (upd4 I 66 0 0 0 v5) fun I1' =>
  gd (inb v2 10) <|
  bnd (upd4 I1' 66 0 0 1 (I1' 54 0 0 v2.toNatClampNeg)) fun I2' =>
  bnd (upd4 I2' 66 0 0 2 v4) fun I3' =>
  bnd (upd4 I3' 66 0 0 3 v3) fun I4' =>
  (f_X8_saidAhead I4' v1 v4).bind fun y1 =>
  bnd (upd4 I4' 66 0 0 4 y1) fun I5' =>
  (f_X8_valueNow I5').bind fun y2 =>
  if y2.1 ≤ 0 then (f_X8_holds_96 y2.2 v2 (0 : Int32)) else (f_X8_holds_96 y2.2 v2 (1 : Int32)))
theorem b_X8_holds_24 (X : CX) (Q : State → Prop) {I : Mem} {P : PMem} {O : Nat → Int64} {D : Bool} {n : Nat} {v1 : Int32} {v2 : Int32} {v3 : Int32} {v4 : Int32} {v5 : Int32} {s0 : Int32} {r : (Int32 × Mem)}  (h : f_X8_holds_24 I v1 v2 v3 v4 v5 s0 = some r) (E : EndR X cX8_holds RX8 7 (some .boolean) 4 n (some (.inl r.1)) r.2 P O D Q) : Here X cX8_holds RX8 7 (some .boolean) 4 n 24 [some (.inr (.inr (8, 0, 0))), some (.inl v1), some (.inl v2), some (.inl v3), some (.inl v4), some (.inl v5), none] [.inl s0] I P O D n Q := by
  unfold f_X8_holds_24 at h
  refine h_istore dX8_holds_24 (by decide) rfl ?_
  refine h_aload_n dX8_holds_26 rfl ?_
  refine g_X8_34  dX8_holds_27 ?_
  refine h_bipush (6 : Int32) dX8_holds_30 k_bipush_6 ?_
  refine al_50  6 cl_6 dX8_holds_32 rfl ?_
  refine h_if_le (tgt := 98) dX8_holds_33 (by decide) (fun q1 => ?_) (fun q1 => ?_)
  · rw [if_pos q1] at h
    exact h_mask [true, false, true, false, false, false, true] (b_X8_holds_98 X Q  h E)
  · rw [if_neg q1] at h
    refine h_aload_n dX8_holds_36 rfl ?_
    refine g_X8_85  dX8_holds_37 ?_
    refine h_iconst (0 : Int32) dX8_holds_40 k_iconst_0 ?_
    refine h_iload dX8_holds_41 rfl ?_
    obtain ⟨I1', e1, h⟩ := bnd_some h
    refine as_66  0 cl_0 dX8_holds_43 rfl ?_
    refine h_nmI e1 ?_
    refine h_aload_n dX8_holds_44 rfl ?_
    refine g_X8_85  dX8_holds_45 ?_
    refine h_iconst (1 : Int32) dX8_holds_48 k_iconst_1 ?_
    refine h_aload_n dX8_holds_49 rfl ?_
    refine g_X8_47  dX8_holds_50 ?_
    refine h_iload_n dX8_holds_53 rfl ?_
    obtain ⟨g1, h⟩ := gd_some h
    refine al_54  v2.toNatClampNeg rfl dX8_holds_54 g1 ?_
    obtain ⟨I2', e2, h⟩ := bnd_some h
    refine as_66  1 cl_1 dX8_holds_55 rfl ?_
    refine h_nmI e2 ?_
    refine h_aload_n dX8_holds_56 rfl ?_
    refine g_X8_85  dX8_holds_57 ?_
    refine h_iconst (2 : Int32) dX8_holds_60 k_iconst_2 ?_
    refine h_iload dX8_holds_61 rfl ?_
    obtain ⟨I3', e3, h⟩ := bnd_some h
    refine as_66  2 cl_2 dX8_holds_63 rfl ?_
    refine h_nmI e3 ?_
    refine h_aload_n dX8_holds_64 rfl ?_
    refine g_X8_85  dX8_holds_65 ?_
    refine h_iconst (3 : Int32) dX8_holds_68 k_iconst_3 ?_
    refine h_iload_n dX8_holds_69 rfl ?_
    obtain ⟨I4', e4, h⟩ := bnd_some h
    refine as_66  3 cl_3 dX8_holds_70 rfl ?_
    refine h_nmI e4 ?_
    refine h_aload_n dX8_holds_71 rfl ?_
    refine g_X8_85  dX8_holds_72 ?_
    refine h_iconst (4 : Int32) dX8_holds_75 k_iconst_4 ?_
    refine h_aload_n dX8_holds_76 rfl ?_
    refine h_iload_n dX8_holds_77 rfl ?_
    refine h_iload dX8_holds_78 rfl ?_
    obtain ⟨y1, hh1, h⟩ := obd_some h
    refine h_cVi [.inl v1, .inl v4] (m_X8_saidAhead  hh1) cw_X8_353 dX8_holds_80 rfl ok_8 (by decide) rfl (Or.inr rfl) rfl ?_
    obtain ⟨I5', e5, h⟩ := bnd_some h
    refine as_66  4 cl_4 dX8_holds_83 rfl ?_
    refine h_nmI e5 ?_
    refine h_aload_n dX8_holds_84 rfl ?_
    obtain ⟨y2, hh2, h⟩ := obd_some h
    refine h_cVi [] (m_X8_valueNow  hh2) cw_X8_356 dX8_holds_85 rfl ok_8 (by decide) rfl (Or.inr rfl) rfl ?_
    refine h_if_le (tgt := 95) dX8_holds_88 (by decide) (fun q2 => ?_) (fun q2 => ?_)
    · rw [if_pos q2] at h
      refine h_iconst (0 : Int32) dX8_holds_95 k_iconst_0 ?_
      exact h_mask [true, false, true, false, false, false, false] (b_X8_holds_96 X Q  h E)
    · rw [if_neg q2] at h
      refine h_iconst (1 : Int32) dX8_holds_91 k_iconst_1 ?_
      refine h_goto (tgt := 96) dX8_holds_92 (by decide) ?_
      exact h_mask [true, false, true, false, false, false, false] (b_X8_holds_96 X Q  h E)
def f_X8_holds   (I : Mem) (v1 : Int32) (v2 : Int32) (v3 : Int32) (v4 : Int32) : Option (Int32 × Mem) :=
  gd (inb (((9 : Int32) * v1) + v3) 108) <|
  bnd (I 57 0 0 ((((9 : Int32) * v1) + v3).toNatClampNeg)) fun x1 =>
  if x1 ≤ (4 : Int32) then (f_X8_holds_24 I v1 v2 v3 v4 x1 (0 : Int32)) else (f_X8_holds_24 I v1 v2 v3 v4 x1 (1 : Int32))
theorem b_X8_holds (X : CX) (Q : State → Prop) {I : Mem} {P : PMem} {O : Nat → Int64} {D : Bool} {n : Nat} {v1 : Int32} {v2 : Int32} {v3 : Int32} {v4 : Int32} {r : (Int32 × Mem)}  (h : f_X8_holds I v1 v2 v3 v4 = some r) (E : EndR X cX8_holds RX8 7 (some .boolean) 4 n (some (.inl r.1)) r.2 P O D Q) : Here X cX8_holds RX8 7 (some .boolean) 4 n 0 [some (.inr (.inr (8, 0, 0))), some (.inl v1), some (.inl v2), some (.inl v3), some (.inl v4), none, none] [] I P O D n Q := by
  unfold f_X8_holds at h
  refine h_aload_n dX8_holds_0 rfl ?_
  refine g_X8_55  dX8_holds_1 ?_
  refine h_bipush (9 : Int32) dX8_holds_4 k_bipush_9 ?_
  refine h_iload_n dX8_holds_6 rfl ?_
  refine h_imul dX8_holds_7 ?_
  refine h_iload_n dX8_holds_8 rfl ?_
  refine h_iadd dX8_holds_9 ?_
  obtain ⟨g1, h⟩ := gd_some h
  refine al_57  ((((9 : Int32) * v1) + v3).toNatClampNeg) rfl dX8_holds_10 g1 ?_
  obtain ⟨x1, e1, h⟩ := bnd_some h
  refine h_nmv e1 ?_
  refine h_istore dX8_holds_11 (by decide) rfl ?_
  refine h_iload dX8_holds_13 rfl ?_
  refine h_iconst (4 : Int32) dX8_holds_15 k_iconst_4 ?_
  refine h_icmp_le (tgt := 23) dX8_holds_16 (by decide) (fun q1 => ?_) (fun q1 => ?_)
  · rw [if_pos q1] at h
    refine h_iconst (0 : Int32) dX8_holds_23 k_iconst_0 ?_
    exact (b_X8_holds_24 X Q  h E)
  · rw [if_neg q1] at h
    refine h_iconst (1 : Int32) dX8_holds_19 k_iconst_1 ?_
    refine h_goto (tgt := 24) dX8_holds_20 (by decide) ?_
    exact (b_X8_holds_24 X Q  h E)
theorem m_X8_holds {I : Mem} {P : PMem} {O : Nat → Int64} {D : Bool} {n : Nat} {v1 : Int32} {v2 : Int32} {v3 : Int32} {v4 : Int32} {r : (Int32 × Mem)}  (h : f_X8_holds I v1 v2 v3 v4 = some r) : MethR yX8_holds cX8_holds 7 (some .boolean) 4 [.inr (.inr (8, 0, 0)), .inl v1, .inl v2, .inl v3, .inl v4] I P O D n (some (.inl r.1)) r.2 P O D n := meth_R (Nat.le_refl _) (by decide) rfl (Nat.le_of_ble_eq_true rfl) rfl (fun X Q E => b_X8_holds X Q  h E)
def f_X8_hear_84 (k3 : Mem → Int32 → Int32 → Int32 → Int32 → Option (Mem))  (I : Mem) (v1 : Int32) (v2 : Int32) (v3 : Int32) (v4 : Int32) (v5 : Int32) (s0 : Int32) (s1 : Int32) : Option (Mem) :=
  gd (inb s1 30) <|
  bnd (upd4 I 71 0 0 s1.toNatClampNeg s0) fun I1' =>
  gd (inb v5 30) <|
  bnd (upd4 I1' 72 0 0 v5.toNatClampNeg v3) fun I2' =>
  bnd (upd4 I2' 73 0 0 v5.toNatClampNeg v2) fun I3' =>
  k3 I3' v1 v2 v3 (v4 + (1 : Int32))
theorem b_X8_hear_84 (X : CX) (Q : State → Prop) {I : Mem} {P : PMem} {O : Nat → Int64} {D : Bool} {n : Nat} {k3 : Mem → Int32 → Int32 → Int32 → Int32 → Option (Mem)} {v1 : Int32} {v2 : Int32} {v3 : Int32} {v4 : Int32} {v5 : Int32} {s0 : Int32} {s1 : Int32} {r : (Mem)}  (H3 : ∀ (I : Mem) (v1 : Int32) (v2 : Int32) (v3 : Int32) (v4 : Int32), k3 I v1 v2 v3 v4 = some r → Here X cX8_hear RX8 6 (none) 5 n 3 [some (.inr (.inr (8, 0, 0))), some (.inl v1), some (.inl v2), some (.inl v3), some (.inl v4), none] [] I P O D n Q) (h : f_X8_hear_84 k3 I v1 v2 v3 v4 v5 s0 s1 = some r) (E : EndR X cX8_hear RX8 6 (none) 5 n none r P O D Q) : Here X cX8_hear RX8 6 (none) 5 n 84 [some (.inr (.inr (8, 0, 0))), some (.inl v1), some (.inl v2), some (.inl v3), some (.inl v4), some (.inl v5)] [.inl s0, .inl s1, .inr (.inr (71, 0, 0))] I P O D n Q := by
  unfold f_X8_hear_84 at h
  obtain ⟨g1, h⟩ := gd_some h
  obtain ⟨I1', e1, h⟩ := bnd_some h
  refine as_71  s1.toNatClampNeg rfl dX8_hear_84 g1 ?_
  refine h_nmI e1 ?_
  refine h_aload_n dX8_hear_85 rfl ?_
  refine g_X8_108  dX8_hear_86 ?_
  refine h_iload dX8_hear_89 rfl ?_
  refine h_iload_n dX8_hear_91 rfl ?_
  obtain ⟨g2, h⟩ := gd_some h
  obtain ⟨I2', e2, h⟩ := bnd_some h
  refine as_72  v5.toNatClampNeg rfl dX8_hear_92 g2 ?_
  refine h_nmI e2 ?_
  refine h_aload_n dX8_hear_93 rfl ?_
  refine g_X8_111  dX8_hear_94 ?_
  refine h_iload dX8_hear_97 rfl ?_
  refine h_iload_n dX8_hear_99 rfl ?_
  obtain ⟨I3', e3, h⟩ := bnd_some h
  refine as_73  v5.toNatClampNeg rfl dX8_hear_100 g2 ?_
  refine h_nmI e3 ?_
  refine h_iinc (1 : Int32) dX8_hear_101 rfl k_iinc_1 (by decide) rfl ?_
  refine h_goto (tgt := 3) dX8_hear_104 (by decide) ?_
  exact h_mask [true, true, true, true, true, false] (H3 _ _ _ _ _ h)
def f_X8_hear_3   : Nat → Mem → Int32 → Int32 → Int32 → Int32 → Option (Mem)
  | 0, _, _, _, _, _ => none
  | fu + 1, I, v1, v2, v3, v4 =>
    if (I 50 0 0 5) ≤ v4 then (some I) else ((f_X8_isFeast I v2 v3).bind fun y1 =>
    if y1 = 0 then (bnd (((5 : Int32) * v4) + v1) fun x1 =>
    gd (inb (((9 : Int32) * v4) + v2) 108) <|
    if (I 57 0 0 ((((9 : Int32) * v4) + v2).toNatClampNeg)) = (-1 : Int32) then ((f_X8_hear_3 fu) I v1 v2 v3 (v4 + (1 : Int32))) else (gd (inb x1 30) <|
    if (I 71 0 0 x1.toNatClampNeg) = (-1 : Int32) then ((f_X8_holds I v4 v1 v2 v3).bind fun y2 =>
    if y2.1 = 0 then (f_X8_hear_84 (f_X8_hear_3 fu) y2.2 v1 v2 v3 v4 x1 (0 : Int32) x1) else (f_X8_hear_84 (f_X8_hear_3 fu) y2.2 v1 v2 v3 v4 x1 (1 : Int32) x1)) else ((f_X8_hear_3 fu) I v1 v2 v3 (v4 + (1 : Int32))))) else (some I))
theorem b_X8_hear_3 (X : CX) (Q : State → Prop) {P : PMem} {O : Nat → Int64} {D : Bool} {n : Nat} {r : (Mem)}  : ∀ (fu : Nat) {I : Mem} {v1 : Int32} {v2 : Int32} {v3 : Int32} {v4 : Int32}, f_X8_hear_3 fu I v1 v2 v3 v4 = some r → EndR X cX8_hear RX8 6 (none) 5 n none r P O D Q → Here X cX8_hear RX8 6 (none) 5 n 3 [some (.inr (.inr (8, 0, 0))), some (.inl v1), some (.inl v2), some (.inl v3), some (.inl v4), none] [] I P O D n Q := by
  intro fu
  induction fu with
  | zero => intro I v1 v2 v3 v4 h E; cases h
  | succ fu ih =>
  intro I v1 v2 v3 v4 h E
  have H3 : ∀ (I : Mem) (v1 : Int32) (v2 : Int32) (v3 : Int32) (v4 : Int32), f_X8_hear_3 fu I v1 v2 v3 v4 = some r → Here X cX8_hear RX8 6 (none) 5 n 3 [some (.inr (.inr (8, 0, 0))), some (.inl v1), some (.inl v2), some (.inl v3), some (.inl v4), none] [] I P O D n Q := fun _ _ _ _ _ b => ih b E
  simp only [f_X8_hear_3] at h
  refine h_iload dX8_hear_3 rfl ?_
  refine h_aload_n dX8_hear_5 rfl ?_
  refine g_X8_34  dX8_hear_6 ?_
  refine h_iconst (5 : Int32) dX8_hear_9 k_iconst_5 ?_
  refine al_50  5 cl_5 dX8_hear_10 rfl ?_
  refine h_icmp_ge (tgt := 107) dX8_hear_11 (by decide) (fun q1 => ?_) (fun q1 => ?_)
  · rw [if_pos q1] at h
    cases h
    exact h_vret dX8_hear_107 rfl E
  · rw [if_neg q1] at h
    refine h_aload_n dX8_hear_14 rfl ?_
    refine h_iload_n dX8_hear_15 rfl ?_
    refine h_iload_n dX8_hear_16 rfl ?_
    obtain ⟨y1, hh1, h⟩ := obd_some h
    refine h_cVi [.inl v2, .inl v3] (m_X8_isFeast  hh1) cw_X8_359 dX8_hear_17 rfl ok_8 (by decide) rfl (Or.inr rfl) rfl ?_
    refine h_if_ne (tgt := 107) dX8_hear_20 (by decide) (fun q2 => ?_) (fun q2 => ?_)
    · rw [if_neg q2] at h
      cases h
      exact h_vret dX8_hear_107 rfl E
    · rw [if_pos q2] at h
      refine h_iconst (5 : Int32) dX8_hear_23 k_iconst_5 ?_
      refine h_iload dX8_hear_24 rfl ?_
      refine h_imul dX8_hear_26 ?_
      refine h_iload_n dX8_hear_27 rfl ?_
      refine h_iadd dX8_hear_28 ?_
      obtain ⟨x1, e1, h⟩ := bnd_some h
      refine h_nmv e1 ?_
      refine h_istore dX8_hear_29 (by decide) rfl ?_
      refine h_aload_n dX8_hear_31 rfl ?_
      refine g_X8_55  dX8_hear_32 ?_
      refine h_bipush (9 : Int32) dX8_hear_35 k_bipush_9 ?_
      refine h_iload dX8_hear_37 rfl ?_
      refine h_imul dX8_hear_39 ?_
      refine h_iload_n dX8_hear_40 rfl ?_
      refine h_iadd dX8_hear_41 ?_
      obtain ⟨g1, h⟩ := gd_some h
      refine al_57  ((((9 : Int32) * v4) + v2).toNatClampNeg) rfl dX8_hear_42 g1 ?_
      refine h_iconst (-1 : Int32) dX8_hear_43 k_iconst_m1 ?_
      refine h_icmp_eq (tgt := 101) dX8_hear_44 (by decide) (fun q3 => ?_) (fun q3 => ?_)
      · rw [if_pos q3] at h
        refine h_iinc (1 : Int32) dX8_hear_101 rfl k_iinc_1 (by decide) rfl ?_
        refine h_goto (tgt := 3) dX8_hear_104 (by decide) ?_
        exact h_mask [true, true, true, true, true, false] (H3 _ _ _ _ _ h)
      · rw [if_neg q3] at h
        refine h_aload_n dX8_hear_47 rfl ?_
        refine g_X8_106  dX8_hear_48 ?_
        refine h_iload dX8_hear_51 rfl ?_
        obtain ⟨g2, h⟩ := gd_some h
        refine al_71  x1.toNatClampNeg rfl dX8_hear_53 g2 ?_
        refine h_iconst (-1 : Int32) dX8_hear_54 k_iconst_m1 ?_
        refine h_icmp_eq (tgt := 61) dX8_hear_55 (by decide) (fun q4 => ?_) (fun q4 => ?_)
        · rw [if_pos q4] at h
          refine h_aload_n dX8_hear_61 rfl ?_
          refine g_X8_106  dX8_hear_62 ?_
          refine h_iload dX8_hear_65 rfl ?_
          refine h_aload_n dX8_hear_67 rfl ?_
          refine h_iload dX8_hear_68 rfl ?_
          refine h_iload_n dX8_hear_70 rfl ?_
          refine h_iload_n dX8_hear_71 rfl ?_
          refine h_iload_n dX8_hear_72 rfl ?_
          obtain ⟨y2, hh2, h⟩ := obd_some h
          refine h_cVi [.inl v4, .inl v1, .inl v2, .inl v3] (m_X8_holds  hh2) cw_X8_362 dX8_hear_73 rfl ok_8 (by decide) rfl (Or.inr rfl) rfl ?_
          refine h_if_eq (tgt := 83) dX8_hear_76 (by decide) (fun q5 => ?_) (fun q5 => ?_)
          · rw [if_pos q5] at h
            refine h_iconst (0 : Int32) dX8_hear_83 k_iconst_0 ?_
            exact (b_X8_hear_84 X Q H3  h E)
          · rw [if_neg q5] at h
            refine h_iconst (1 : Int32) dX8_hear_79 k_iconst_1 ?_
            refine h_goto (tgt := 84) dX8_hear_80 (by decide) ?_
            exact (b_X8_hear_84 X Q H3  h E)
        · rw [if_neg q4] at h
          refine h_goto (tgt := 101) dX8_hear_58 (by decide) ?_
          refine h_iinc (1 : Int32) dX8_hear_101 rfl k_iinc_1 (by decide) rfl ?_
          refine h_goto (tgt := 3) dX8_hear_104 (by decide) ?_
          exact h_mask [true, true, true, true, true, false] (H3 _ _ _ _ _ h)
def f_X8_hear   (I : Mem) (v1 : Int32) (v2 : Int32) (v3 : Int32) : Option (Mem) :=
  f_X8_hear_3 FU I v1 v2 v3 (0 : Int32)
theorem b_X8_hear (X : CX) (Q : State → Prop) {I : Mem} {P : PMem} {O : Nat → Int64} {D : Bool} {n : Nat} {v1 : Int32} {v2 : Int32} {v3 : Int32} {r : (Mem)}  (h : f_X8_hear I v1 v2 v3 = some r) (E : EndR X cX8_hear RX8 6 (none) 5 n none r P O D Q) : Here X cX8_hear RX8 6 (none) 5 n 0 [some (.inr (.inr (8, 0, 0))), some (.inl v1), some (.inl v2), some (.inl v3), none, none] [] I P O D n Q := by
  unfold f_X8_hear at h
  refine h_iconst (0 : Int32) dX8_hear_0 k_iconst_0 ?_
  refine h_istore dX8_hear_1 (by decide) rfl ?_
  exact (b_X8_hear_3 X Q FU  h E)
theorem m_X8_hear {I : Mem} {P : PMem} {O : Nat → Int64} {D : Bool} {n : Nat} {v1 : Int32} {v2 : Int32} {v3 : Int32} {r : (Mem)}  (h : f_X8_hear I v1 v2 v3 = some r) : MethR yX8_hear cX8_hear 6 (none) 5 [.inr (.inr (8, 0, 0)), .inl v1, .inl v2, .inl v3] I P O D n none r P O D n := meth_R (Nat.le_refl _) (by decide) rfl (Nat.le_of_ble_eq_true rfl) rfl (fun X Q E => b_X8_hear X Q  h E)
def f_X8_newsBy  (I : Mem) (v1 : Int32) (v2 : Int32) (v3 : Int32) : Option (Int32) :=
  bnd (((5 : Int32) * v1) + v2) fun x1 =>
  gd (inb x1 30) <|
  if (I 71 0 0 x1.toNatClampNeg) = (-1 : Int32) then (some (100000 : Int32)) else ((f_X8_newsDays I (I 73 0 0 x1.toNatClampNeg) v3).bind fun y1 =>
  some ((I 72 0 0 x1.toNatClampNeg) + y1))
theorem b_X8_newsBy (X : CX) (Q : State → Prop) {I : Mem} {P : PMem} {O : Nat → Int64} {D : Bool} {n : Nat} {v1 : Int32} {v2 : Int32} {v3 : Int32} {r : (Int32)}  (h : f_X8_newsBy I v1 v2 v3 = some r) (E : EndR X cX8_newsBy RX8 5 (some .int) 4 n (some (.inl r)) I P O D Q) : Here X cX8_newsBy RX8 5 (some .int) 4 n 0 [some (.inr (.inr (8, 0, 0))), some (.inl v1), some (.inl v2), some (.inl v3), none] [] I P O D n Q := by
  unfold f_X8_newsBy at h
  refine h_iconst (5 : Int32) dX8_newsBy_0 k_iconst_5 ?_
  refine h_iload_n dX8_newsBy_1 rfl ?_
  refine h_imul dX8_newsBy_2 ?_
  refine h_iload_n dX8_newsBy_3 rfl ?_
  refine h_iadd dX8_newsBy_4 ?_
  obtain ⟨x1, e1, h⟩ := bnd_some h
  refine h_nmv e1 ?_
  refine h_istore dX8_newsBy_5 (by decide) rfl ?_
  refine h_aload_n dX8_newsBy_7 rfl ?_
  refine g_X8_106  dX8_newsBy_8 ?_
  refine h_iload dX8_newsBy_11 rfl ?_
  obtain ⟨g1, h⟩ := gd_some h
  refine al_71  x1.toNatClampNeg rfl dX8_newsBy_13 g1 ?_
  refine h_iconst (-1 : Int32) dX8_newsBy_14 k_iconst_m1 ?_
  refine h_icmp_ne (tgt := 23) dX8_newsBy_15 (by decide) (fun q1 => ?_) (fun q1 => ?_)
  · rw [if_neg q1] at h
    refine h_aload_n dX8_newsBy_23 rfl ?_
    refine g_X8_108  dX8_newsBy_24 ?_
    refine h_iload dX8_newsBy_27 rfl ?_
    refine al_72  x1.toNatClampNeg rfl dX8_newsBy_29 g1 ?_
    refine h_aload_n dX8_newsBy_30 rfl ?_
    refine h_aload_n dX8_newsBy_31 rfl ?_
    refine g_X8_111  dX8_newsBy_32 ?_
    refine h_iload dX8_newsBy_35 rfl ?_
    refine al_73  x1.toNatClampNeg rfl dX8_newsBy_37 g1 ?_
    refine h_iload_n dX8_newsBy_38 rfl ?_
    obtain ⟨y1, hh1, h⟩ := obd_some h
    refine h_cVi [.inl (I 73 0 0 x1.toNatClampNeg), .inl v3] (m_X8_newsDays  hh1) cw_X8_366 dX8_newsBy_39 rfl ok_8 (by decide) rfl (Or.inr rfl) rfl ?_
    refine h_iadd dX8_newsBy_42 ?_
    cases h
    exact h_iret dX8_newsBy_43 rfl E
  · rw [if_pos q1] at h
    refine h_ldci (100000 : Int32) dX8_newsBy_18 kc_X8_186 ?_
    refine h_goto (tgt := 43) dX8_newsBy_20 (by decide) ?_
    cases h
    exact h_iret dX8_newsBy_43 rfl E
theorem m_X8_newsBy {I : Mem} {P : PMem} {O : Nat → Int64} {D : Bool} {n : Nat} {v1 : Int32} {v2 : Int32} {v3 : Int32} {r : (Int32)}  (h : f_X8_newsBy I v1 v2 v3 = some r) : MethR yX8_newsBy cX8_newsBy 5 (some .int) 4 [.inr (.inr (8, 0, 0)), .inl v1, .inl v2, .inl v3] I P O D n (some (.inl r)) I P O D n := meth_R (Nat.le_refl _) (by decide) rfl (Nat.le_of_ble_eq_true rfl) rfl (fun X Q E => b_X8_newsBy X Q  h E)
def f_X8_newsByWord_6  (I : Mem) : Nat → Int32 → Int32 → Int32 → Int32 → Option (Int32)
  | 0, _, _, _, _ => none
  | fu + 1, v1, v2, v3, v4 =>
    if (I 8 0 0 30) ≤ v4 then (some v3) else (gd (inb ((3 : Int32) * v4) 15) <|
    if (I 62 0 0 (((3 : Int32) * v4).toNatClampNeg)) = v1 then (gd (inb (((3 : Int32) * v4) + (2 : Int32)) 15) <|
    gd (inb (((3 : Int32) * v4) + (1 : Int32)) 15) <|
    (f_X8_newsDays I (I 62 0 0 ((((3 : Int32) * v4) + (1 : Int32)).toNatClampNeg)) v2).bind fun y1 =>
    bnd (jmin v3 ((I 62 0 0 ((((3 : Int32) * v4) + (2 : Int32)).toNatClampNeg)) + y1)) fun x1 =>
    (f_X8_newsByWord_6 I fu) v1 v2 x1 (v4 + (1 : Int32))) else ((f_X8_newsByWord_6 I fu) v1 v2 v3 (v4 + (1 : Int32))))
theorem b_X8_newsByWord_6 (X : CX) (Q : State → Prop) {I : Mem} {P : PMem} {O : Nat → Int64} {D : Bool} {n : Nat} {r : (Int32)}  : ∀ (fu : Nat) {v1 : Int32} {v2 : Int32} {v3 : Int32} {v4 : Int32}, f_X8_newsByWord_6 I fu v1 v2 v3 v4 = some r → EndR X cX8_newsByWord RX8 5 (some .int) 4 n (some (.inl r)) I P O D Q → Here X cX8_newsByWord RX8 5 (some .int) 4 n 6 [some (.inr (.inr (8, 0, 0))), some (.inl v1), some (.inl v2), some (.inl v3), some (.inl v4)] [] I P O D n Q := by
  intro fu
  induction fu with
  | zero => intro v1 v2 v3 v4 h E; cases h
  | succ fu ih =>
  intro v1 v2 v3 v4 h E
  have H6 : ∀ (v1 : Int32) (v2 : Int32) (v3 : Int32) (v4 : Int32), f_X8_newsByWord_6 I fu v1 v2 v3 v4 = some r → Here X cX8_newsByWord RX8 5 (some .int) 4 n 6 [some (.inr (.inr (8, 0, 0))), some (.inl v1), some (.inl v2), some (.inl v3), some (.inl v4)] [] I P O D n Q := fun _ _ _ _ b => ih b E
  simp only [f_X8_newsByWord_6] at h
  refine h_iload dX8_newsByWord_6 rfl ?_
  refine h_aload_n dX8_newsByWord_8 rfl ?_
  refine g_X8_314  dX8_newsByWord_9 ?_
  refine h_icmp_ge (tgt := 67) dX8_newsByWord_12 (by decide) (fun q1 => ?_) (fun q1 => ?_)
  · rw [if_pos q1] at h
    refine h_iload_n dX8_newsByWord_67 rfl ?_
    cases h
    exact h_iret dX8_newsByWord_68 rfl E
  · rw [if_neg q1] at h
    refine h_aload_n dX8_newsByWord_15 rfl ?_
    refine g_X8_73  dX8_newsByWord_16 ?_
    refine h_iconst (3 : Int32) dX8_newsByWord_19 k_iconst_3 ?_
    refine h_iload dX8_newsByWord_20 rfl ?_
    refine h_imul dX8_newsByWord_22 ?_
    obtain ⟨g1, h⟩ := gd_some h
    refine al_62  (((3 : Int32) * v4).toNatClampNeg) rfl dX8_newsByWord_23 g1 ?_
    refine h_iload_n dX8_newsByWord_24 rfl ?_
    refine h_icmp_ne (tgt := 61) dX8_newsByWord_25 (by decide) (fun q2 => ?_) (fun q2 => ?_)
    · rw [if_neg q2] at h
      refine h_iinc (1 : Int32) dX8_newsByWord_61 rfl k_iinc_1 (by decide) rfl ?_
      refine h_goto (tgt := 6) dX8_newsByWord_64 (by decide) ?_
      exact (H6 _ _ _ _ h)
    · rw [if_pos q2] at h
      refine h_iload_n dX8_newsByWord_28 rfl ?_
      refine h_aload_n dX8_newsByWord_29 rfl ?_
      refine g_X8_73  dX8_newsByWord_30 ?_
      refine h_iconst (3 : Int32) dX8_newsByWord_33 k_iconst_3 ?_
      refine h_iload dX8_newsByWord_34 rfl ?_
      refine h_imul dX8_newsByWord_36 ?_
      refine h_iconst (2 : Int32) dX8_newsByWord_37 k_iconst_2 ?_
      refine h_iadd dX8_newsByWord_38 ?_
      obtain ⟨g2, h⟩ := gd_some h
      refine al_62  ((((3 : Int32) * v4) + (2 : Int32)).toNatClampNeg) rfl dX8_newsByWord_39 g2 ?_
      refine h_aload_n dX8_newsByWord_40 rfl ?_
      refine h_aload_n dX8_newsByWord_41 rfl ?_
      refine g_X8_73  dX8_newsByWord_42 ?_
      refine h_iconst (3 : Int32) dX8_newsByWord_45 k_iconst_3 ?_
      refine h_iload dX8_newsByWord_46 rfl ?_
      refine h_imul dX8_newsByWord_48 ?_
      refine h_iconst (1 : Int32) dX8_newsByWord_49 k_iconst_1 ?_
      refine h_iadd dX8_newsByWord_50 ?_
      obtain ⟨g3, h⟩ := gd_some h
      refine al_62  ((((3 : Int32) * v4) + (1 : Int32)).toNatClampNeg) rfl dX8_newsByWord_51 g3 ?_
      refine h_iload_n dX8_newsByWord_52 rfl ?_
      obtain ⟨y1, hh1, h⟩ := obd_some h
      refine h_cVi [.inl (I 62 0 0 ((((3 : Int32) * v4) + (1 : Int32)).toNatClampNeg)), .inl v2] (m_X8_newsDays  hh1) cw_X8_366 dX8_newsByWord_53 rfl ok_8 (by decide) rfl (Or.inr rfl) rfl ?_
      refine h_iadd dX8_newsByWord_56 ?_
      refine h_min dX8_newsByWord_57 ml_X8_187 wm1_min wm2 wm3_min (by decide) rfl ?_
      obtain ⟨x1, e1, h⟩ := bnd_some h
      refine h_nmv e1 ?_
      refine h_istore_n dX8_newsByWord_60 (by decide) rfl ?_
      refine h_iinc (1 : Int32) dX8_newsByWord_61 rfl k_iinc_1 (by decide) rfl ?_
      refine h_goto (tgt := 6) dX8_newsByWord_64 (by decide) ?_
      exact (H6 _ _ _ _ h)
def f_X8_newsByWord  (I : Mem) (v1 : Int32) (v2 : Int32) : Option (Int32) :=
  f_X8_newsByWord_6 I FU v1 v2 (100000 : Int32) (0 : Int32)
theorem b_X8_newsByWord (X : CX) (Q : State → Prop) {I : Mem} {P : PMem} {O : Nat → Int64} {D : Bool} {n : Nat} {v1 : Int32} {v2 : Int32} {r : (Int32)}  (h : f_X8_newsByWord I v1 v2 = some r) (E : EndR X cX8_newsByWord RX8 5 (some .int) 4 n (some (.inl r)) I P O D Q) : Here X cX8_newsByWord RX8 5 (some .int) 4 n 0 [some (.inr (.inr (8, 0, 0))), some (.inl v1), some (.inl v2), none, none] [] I P O D n Q := by
  unfold f_X8_newsByWord at h
  refine h_ldci (100000 : Int32) dX8_newsByWord_0 kc_X8_186 ?_
  refine h_istore_n dX8_newsByWord_2 (by decide) rfl ?_
  refine h_iconst (0 : Int32) dX8_newsByWord_3 k_iconst_0 ?_
  refine h_istore dX8_newsByWord_4 (by decide) rfl ?_
  exact (b_X8_newsByWord_6 X Q FU  h E)
theorem m_X8_newsByWord {I : Mem} {P : PMem} {O : Nat → Int64} {D : Bool} {n : Nat} {v1 : Int32} {v2 : Int32} {r : (Int32)}  (h : f_X8_newsByWord I v1 v2 = some r) : MethR yX8_newsByWord cX8_newsByWord 5 (some .int) 4 [.inr (.inr (8, 0, 0)), .inl v1, .inl v2] I P O D n (some (.inl r)) I P O D n := meth_R (Nat.le_refl _) (by decide) rfl (Nat.le_of_ble_eq_true rfl) rfl (fun X Q E => b_X8_newsByWord X Q  h E)
