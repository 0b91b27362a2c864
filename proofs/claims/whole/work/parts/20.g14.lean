theorem dX8_pack_0 : decode cX8_pack 0 = .ok (.iload_n 2, 1) := by decide +kernel
theorem dX8_pack_1 : decode cX8_pack 1 = .ok (.istore_n 3, 1) := by decide +kernel
theorem dX8_pack_2 : decode cX8_pack 2 = .ok (.iconst 0, 1) := by decide +kernel
theorem dX8_pack_3 : decode cX8_pack 3 = .ok (.istore 4, 2) := by decide +kernel
theorem dX8_pack_5 : decode cX8_pack 5 = .ok (.iload 4, 2) := by decide +kernel
theorem dX8_pack_7 : decode cX8_pack 7 = .ok (.iconst 5, 1) := by decide +kernel
theorem dX8_pack_8 : decode cX8_pack 8 = .ok (.if_icmp .ge 22, 3) := by decide +kernel
theorem dX8_pack_11 : decode cX8_pack 11 = .ok (.aload_n 1, 1) := by decide +kernel
theorem dX8_pack_12 : decode cX8_pack 12 = .ok (.iload_n 3, 1) := by decide +kernel
theorem dX8_pack_13 : decode cX8_pack 13 = .ok (.iload 4, 2) := by decide +kernel
theorem dX8_pack_15 : decode cX8_pack 15 = .ok (.iadd, 1) := by decide +kernel
theorem dX8_pack_16 : decode cX8_pack 16 = .ok (.aload_n 0, 1) := by decide +kernel
theorem dX8_pack_17 : decode cX8_pack 17 = .ok (.getfield 44, 3) := by decide +kernel
theorem dX8_pack_20 : decode cX8_pack 20 = .ok (.iload 4, 2) := by decide +kernel
theorem dX8_pack_22 : decode cX8_pack 22 = .ok (.iaload, 1) := by decide +kernel
theorem dX8_pack_23 : decode cX8_pack 23 = .ok (.iastore, 1) := by decide +kernel
theorem dX8_pack_24 : decode cX8_pack 24 = .ok (.iinc 4 1, 3) := by decide +kernel
theorem dX8_pack_27 : decode cX8_pack 27 = .ok (.goto (-22), 3) := by decide +kernel
theorem dX8_pack_30 : decode cX8_pack 30 = .ok (.iinc 3 5, 3) := by decide +kernel
theorem dX8_pack_33 : decode cX8_pack 33 = .ok (.aload_n 1, 1) := by decide +kernel
theorem dX8_pack_34 : decode cX8_pack 34 = .ok (.iload_n 3, 1) := by decide +kernel
theorem dX8_pack_35 : decode cX8_pack 35 = .ok (.aload_n 0, 1) := by decide +kernel
theorem dX8_pack_36 : decode cX8_pack 36 = .ok (.getfield 311, 3) := by decide +kernel
theorem dX8_pack_39 : decode cX8_pack 39 = .ok (.iastore, 1) := by decide +kernel
theorem dX8_pack_40 : decode cX8_pack 40 = .ok (.aload_n 1, 1) := by decide +kernel
theorem dX8_pack_41 : decode cX8_pack 41 = .ok (.iload_n 3, 1) := by decide +kernel
theorem dX8_pack_42 : decode cX8_pack 42 = .ok (.iconst 1, 1) := by decide +kernel
theorem dX8_pack_43 : decode cX8_pack 43 = .ok (.iadd, 1) := by decide +kernel
theorem dX8_pack_44 : decode cX8_pack 44 = .ok (.aload_n 0, 1) := by decide +kernel
theorem dX8_pack_45 : decode cX8_pack 45 = .ok (.getfield 314, 3) := by decide +kernel
theorem dX8_pack_48 : decode cX8_pack 48 = .ok (.iastore, 1) := by decide +kernel
theorem dX8_pack_49 : decode cX8_pack 49 = .ok (.aload_n 1, 1) := by decide +kernel
theorem dX8_pack_50 : decode cX8_pack 50 = .ok (.iload_n 3, 1) := by decide +kernel
theorem dX8_pack_51 : decode cX8_pack 51 = .ok (.iconst 2, 1) := by decide +kernel
theorem dX8_pack_52 : decode cX8_pack 52 = .ok (.iadd, 1) := by decide +kernel
theorem dX8_pack_53 : decode cX8_pack 53 = .ok (.aload_n 0, 1) := by decide +kernel
theorem dX8_pack_54 : decode cX8_pack 54 = .ok (.getfield 317, 3) := by decide +kernel
theorem dX8_pack_57 : decode cX8_pack 57 = .ok (.iastore, 1) := by decide +kernel
theorem dX8_pack_58 : decode cX8_pack 58 = .ok (.aload_n 1, 1) := by decide +kernel
theorem dX8_pack_59 : decode cX8_pack 59 = .ok (.iload_n 3, 1) := by decide +kernel
theorem dX8_pack_60 : decode cX8_pack 60 = .ok (.iconst 3, 1) := by decide +kernel
theorem dX8_pack_61 : decode cX8_pack 61 = .ok (.iadd, 1) := by decide +kernel
theorem dX8_pack_62 : decode cX8_pack 62 = .ok (.aload_n 0, 1) := by decide +kernel
theorem dX8_pack_63 : decode cX8_pack 63 = .ok (.getfield 320, 3) := by decide +kernel
theorem dX8_pack_66 : decode cX8_pack 66 = .ok (.iastore, 1) := by decide +kernel
theorem dX8_pack_67 : decode cX8_pack 67 = .ok (.iinc 3 4, 3) := by decide +kernel
theorem dX8_pack_70 : decode cX8_pack 70 = .ok (.iconst 0, 1) := by decide +kernel
theorem dX8_pack_71 : decode cX8_pack 71 = .ok (.istore 4, 2) := by decide +kernel
theorem dX8_pack_73 : decode cX8_pack 73 = .ok (.iload 4, 2) := by decide +kernel
theorem dX8_pack_75 : decode cX8_pack 75 = .ok (.bipush 12, 2) := by decide +kernel
theorem dX8_pack_77 : decode cX8_pack 77 = .ok (.if_icmp .ge 54, 3) := by decide +kernel
theorem dX8_pack_80 : decode cX8_pack 80 = .ok (.aload_n 1, 1) := by decide +kernel
theorem dX8_pack_81 : decode cX8_pack 81 = .ok (.iload_n 3, 1) := by decide +kernel
theorem dX8_pack_82 : decode cX8_pack 82 = .ok (.iload 4, 2) := by decide +kernel
theorem dX8_pack_84 : decode cX8_pack 84 = .ok (.iadd, 1) := by decide +kernel
theorem dX8_pack_85 : decode cX8_pack 85 = .ok (.aload_n 0, 1) := by decide +kernel
theorem dX8_pack_86 : decode cX8_pack 86 = .ok (.getfield 73, 3) := by decide +kernel
theorem dX8_pack_89 : decode cX8_pack 89 = .ok (.iload 4, 2) := by decide +kernel
theorem dX8_pack_91 : decode cX8_pack 91 = .ok (.iaload, 1) := by decide +kernel
theorem dX8_pack_92 : decode cX8_pack 92 = .ok (.iastore, 1) := by decide +kernel
theorem dX8_pack_93 : decode cX8_pack 93 = .ok (.aload_n 1, 1) := by decide +kernel
theorem dX8_pack_94 : decode cX8_pack 94 = .ok (.iload_n 3, 1) := by decide +kernel
theorem dX8_pack_95 : decode cX8_pack 95 = .ok (.bipush 12, 2) := by decide +kernel
theorem dX8_pack_97 : decode cX8_pack 97 = .ok (.iadd, 1) := by decide +kernel
theorem dX8_pack_98 : decode cX8_pack 98 = .ok (.iload 4, 2) := by decide +kernel
theorem dX8_pack_100 : decode cX8_pack 100 = .ok (.iadd, 1) := by decide +kernel
theorem dX8_pack_101 : decode cX8_pack 101 = .ok (.aload_n 0, 1) := by decide +kernel
theorem dX8_pack_102 : decode cX8_pack 102 = .ok (.getfield 76, 3) := by decide +kernel
theorem dX8_pack_105 : decode cX8_pack 105 = .ok (.iload 4, 2) := by decide +kernel
theorem dX8_pack_107 : decode cX8_pack 107 = .ok (.iaload, 1) := by decide +kernel
theorem dX8_pack_108 : decode cX8_pack 108 = .ok (.iastore, 1) := by decide +kernel
theorem dX8_pack_109 : decode cX8_pack 109 = .ok (.aload_n 1, 1) := by decide +kernel
theorem dX8_pack_110 : decode cX8_pack 110 = .ok (.iload_n 3, 1) := by decide +kernel
theorem dX8_pack_111 : decode cX8_pack 111 = .ok (.bipush 24, 2) := by decide +kernel
theorem dX8_pack_113 : decode cX8_pack 113 = .ok (.iadd, 1) := by decide +kernel
theorem dX8_pack_114 : decode cX8_pack 114 = .ok (.iload 4, 2) := by decide +kernel
theorem dX8_pack_116 : decode cX8_pack 116 = .ok (.iadd, 1) := by decide +kernel
theorem dX8_pack_117 : decode cX8_pack 117 = .ok (.aload_n 0, 1) := by decide +kernel
theorem dX8_pack_118 : decode cX8_pack 118 = .ok (.getfield 79, 3) := by decide +kernel
theorem dX8_pack_121 : decode cX8_pack 121 = .ok (.iload 4, 2) := by decide +kernel
theorem dX8_pack_123 : decode cX8_pack 123 = .ok (.iaload, 1) := by decide +kernel
theorem dX8_pack_124 : decode cX8_pack 124 = .ok (.iastore, 1) := by decide +kernel
theorem dX8_pack_125 : decode cX8_pack 125 = .ok (.iinc 4 1, 3) := by decide +kernel
theorem dX8_pack_128 : decode cX8_pack 128 = .ok (.goto (-55), 3) := by decide +kernel
theorem dX8_pack_131 : decode cX8_pack 131 = .ok (.return_, 1) := by decide +kernel
theorem dX8_unpack_0 : decode cX8_unpack 0 = .ok (.iload_n 2, 1) := by decide +kernel
theorem dX8_unpack_1 : decode cX8_unpack 1 = .ok (.istore_n 3, 1) := by decide +kernel
theorem dX8_unpack_2 : decode cX8_unpack 2 = .ok (.iconst 0, 1) := by decide +kernel
theorem dX8_unpack_3 : decode cX8_unpack 3 = .ok (.istore 4, 2) := by decide +kernel
theorem dX8_unpack_5 : decode cX8_unpack 5 = .ok (.iload 4, 2) := by decide +kernel
theorem dX8_unpack_7 : decode cX8_unpack 7 = .ok (.iconst 5, 1) := by decide +kernel
theorem dX8_unpack_8 : decode cX8_unpack 8 = .ok (.if_icmp .ge 22, 3) := by decide +kernel
theorem dX8_unpack_11 : decode cX8_unpack 11 = .ok (.aload_n 0, 1) := by decide +kernel
theorem dX8_unpack_12 : decode cX8_unpack 12 = .ok (.getfield 44, 3) := by decide +kernel
theorem dX8_unpack_15 : decode cX8_unpack 15 = .ok (.iload 4, 2) := by decide +kernel
theorem dX8_unpack_17 : decode cX8_unpack 17 = .ok (.aload_n 1, 1) := by decide +kernel
theorem dX8_unpack_18 : decode cX8_unpack 18 = .ok (.iload_n 3, 1) := by decide +kernel
theorem dX8_unpack_19 : decode cX8_unpack 19 = .ok (.iload 4, 2) := by decide +kernel
theorem dX8_unpack_21 : decode cX8_unpack 21 = .ok (.iadd, 1) := by decide +kernel
theorem dX8_unpack_22 : decode cX8_unpack 22 = .ok (.iaload, 1) := by decide +kernel
theorem dX8_unpack_23 : decode cX8_unpack 23 = .ok (.iastore, 1) := by decide +kernel
theorem dX8_unpack_24 : decode cX8_unpack 24 = .ok (.iinc 4 1, 3) := by decide +kernel
theorem dX8_unpack_27 : decode cX8_unpack 27 = .ok (.goto (-22), 3) := by decide +kernel
theorem dX8_unpack_30 : decode cX8_unpack 30 = .ok (.iinc 3 5, 3) := by decide +kernel
theorem dX8_unpack_33 : decode cX8_unpack 33 = .ok (.aload_n 0, 1) := by decide +kernel
theorem dX8_unpack_34 : decode cX8_unpack 34 = .ok (.aload_n 1, 1) := by decide +kernel
theorem dX8_unpack_35 : decode cX8_unpack 35 = .ok (.iload_n 3, 1) := by decide +kernel
theorem dX8_unpack_36 : decode cX8_unpack 36 = .ok (.iaload, 1) := by decide +kernel
theorem dX8_unpack_37 : decode cX8_unpack 37 = .ok (.putfield 311, 3) := by decide +kernel
theorem dX8_unpack_40 : decode cX8_unpack 40 = .ok (.aload_n 0, 1) := by decide +kernel
theorem dX8_unpack_41 : decode cX8_unpack 41 = .ok (.aload_n 1, 1) := by decide +kernel
theorem dX8_unpack_42 : decode cX8_unpack 42 = .ok (.iload_n 3, 1) := by decide +kernel
theorem dX8_unpack_43 : decode cX8_unpack 43 = .ok (.iconst 1, 1) := by decide +kernel
theorem dX8_unpack_44 : decode cX8_unpack 44 = .ok (.iadd, 1) := by decide +kernel
theorem dX8_unpack_45 : decode cX8_unpack 45 = .ok (.iaload, 1) := by decide +kernel
theorem dX8_unpack_46 : decode cX8_unpack 46 = .ok (.putfield 314, 3) := by decide +kernel
theorem dX8_unpack_49 : decode cX8_unpack 49 = .ok (.aload_n 0, 1) := by decide +kernel
theorem dX8_unpack_50 : decode cX8_unpack 50 = .ok (.aload_n 1, 1) := by decide +kernel
theorem dX8_unpack_51 : decode cX8_unpack 51 = .ok (.iload_n 3, 1) := by decide +kernel
theorem dX8_unpack_52 : decode cX8_unpack 52 = .ok (.iconst 2, 1) := by decide +kernel
theorem dX8_unpack_53 : decode cX8_unpack 53 = .ok (.iadd, 1) := by decide +kernel
theorem dX8_unpack_54 : decode cX8_unpack 54 = .ok (.iaload, 1) := by decide +kernel
theorem dX8_unpack_55 : decode cX8_unpack 55 = .ok (.putfield 317, 3) := by decide +kernel
theorem dX8_unpack_58 : decode cX8_unpack 58 = .ok (.aload_n 0, 1) := by decide +kernel
theorem dX8_unpack_59 : decode cX8_unpack 59 = .ok (.aload_n 1, 1) := by decide +kernel
theorem dX8_unpack_60 : decode cX8_unpack 60 = .ok (.iload_n 3, 1) := by decide +kernel
theorem dX8_unpack_61 : decode cX8_unpack 61 = .ok (.iconst 3, 1) := by decide +kernel
theorem dX8_unpack_62 : decode cX8_unpack 62 = .ok (.iadd, 1) := by decide +kernel
theorem dX8_unpack_63 : decode cX8_unpack 63 = .ok (.iaload, 1) := by decide +kernel
theorem dX8_unpack_64 : decode cX8_unpack 64 = .ok (.putfield 320, 3) := by decide +kernel
theorem dX8_unpack_67 : decode cX8_unpack 67 = .ok (.iinc 3 4, 3) := by decide +kernel
theorem dX8_unpack_70 : decode cX8_unpack 70 = .ok (.iconst 0, 1) := by decide +kernel
theorem dX8_unpack_71 : decode cX8_unpack 71 = .ok (.istore 4, 2) := by decide +kernel
theorem dX8_unpack_73 : decode cX8_unpack 73 = .ok (.iload 4, 2) := by decide +kernel
theorem dX8_unpack_75 : decode cX8_unpack 75 = .ok (.bipush 12, 2) := by decide +kernel
theorem dX8_unpack_77 : decode cX8_unpack 77 = .ok (.if_icmp .ge 54, 3) := by decide +kernel
theorem dX8_unpack_80 : decode cX8_unpack 80 = .ok (.aload_n 0, 1) := by decide +kernel
theorem dX8_unpack_81 : decode cX8_unpack 81 = .ok (.getfield 73, 3) := by decide +kernel
theorem dX8_unpack_84 : decode cX8_unpack 84 = .ok (.iload 4, 2) := by decide +kernel
theorem dX8_unpack_86 : decode cX8_unpack 86 = .ok (.aload_n 1, 1) := by decide +kernel
theorem dX8_unpack_87 : decode cX8_unpack 87 = .ok (.iload_n 3, 1) := by decide +kernel
theorem dX8_unpack_88 : decode cX8_unpack 88 = .ok (.iload 4, 2) := by decide +kernel
theorem dX8_unpack_90 : decode cX8_unpack 90 = .ok (.iadd, 1) := by decide +kernel
theorem dX8_unpack_91 : decode cX8_unpack 91 = .ok (.iaload, 1) := by decide +kernel
theorem dX8_unpack_92 : decode cX8_unpack 92 = .ok (.iastore, 1) := by decide +kernel
theorem dX8_unpack_93 : decode cX8_unpack 93 = .ok (.aload_n 0, 1) := by decide +kernel
theorem dX8_unpack_94 : decode cX8_unpack 94 = .ok (.getfield 76, 3) := by decide +kernel
theorem dX8_unpack_97 : decode cX8_unpack 97 = .ok (.iload 4, 2) := by decide +kernel
theorem dX8_unpack_99 : decode cX8_unpack 99 = .ok (.aload_n 1, 1) := by decide +kernel
theorem dX8_unpack_100 : decode cX8_unpack 100 = .ok (.iload_n 3, 1) := by decide +kernel
theorem dX8_unpack_101 : decode cX8_unpack 101 = .ok (.bipush 12, 2) := by decide +kernel
theorem dX8_unpack_103 : decode cX8_unpack 103 = .ok (.iadd, 1) := by decide +kernel
theorem dX8_unpack_104 : decode cX8_unpack 104 = .ok (.iload 4, 2) := by decide +kernel
theorem dX8_unpack_106 : decode cX8_unpack 106 = .ok (.iadd, 1) := by decide +kernel
theorem dX8_unpack_107 : decode cX8_unpack 107 = .ok (.iaload, 1) := by decide +kernel
theorem dX8_unpack_108 : decode cX8_unpack 108 = .ok (.iastore, 1) := by decide +kernel
theorem dX8_unpack_109 : decode cX8_unpack 109 = .ok (.aload_n 0, 1) := by decide +kernel
theorem dX8_unpack_110 : decode cX8_unpack 110 = .ok (.getfield 79, 3) := by decide +kernel
theorem dX8_unpack_113 : decode cX8_unpack 113 = .ok (.iload 4, 2) := by decide +kernel
theorem dX8_unpack_115 : decode cX8_unpack 115 = .ok (.aload_n 1, 1) := by decide +kernel
theorem dX8_unpack_116 : decode cX8_unpack 116 = .ok (.iload_n 3, 1) := by decide +kernel
theorem dX8_unpack_117 : decode cX8_unpack 117 = .ok (.bipush 24, 2) := by decide +kernel
theorem dX8_unpack_119 : decode cX8_unpack 119 = .ok (.iadd, 1) := by decide +kernel
theorem dX8_unpack_120 : decode cX8_unpack 120 = .ok (.iload 4, 2) := by decide +kernel
theorem dX8_unpack_122 : decode cX8_unpack 122 = .ok (.iadd, 1) := by decide +kernel
theorem dX8_unpack_123 : decode cX8_unpack 123 = .ok (.iaload, 1) := by decide +kernel
theorem dX8_unpack_124 : decode cX8_unpack 124 = .ok (.iastore, 1) := by decide +kernel
theorem dX8_unpack_125 : decode cX8_unpack 125 = .ok (.iinc 4 1, 3) := by decide +kernel
theorem dX8_unpack_128 : decode cX8_unpack 128 = .ok (.goto (-55), 3) := by decide +kernel
theorem dX8_unpack_131 : decode cX8_unpack 131 = .ok (.return_, 1) := by decide +kernel
theorem dX8_reckon_0 : decode cX8_reckon 0 = .ok (.iload_n 0, 1) := by decide +kernel
theorem dX8_reckon_1 : decode cX8_reckon 1 = .ok (.tableswitch 103 (-26) (-20) #[89, 78, 67, 55, 51, 47, 43], 43) := by decide +kernel
theorem dX8_reckon_44 : decode cX8_reckon 44 = .ok (.iload_n 1, 1) := by decide +kernel
theorem dX8_reckon_45 : decode cX8_reckon 45 = .ok (.iload_n 2, 1) := by decide +kernel
theorem dX8_reckon_46 : decode cX8_reckon 46 = .ok (.iadd, 1) := by decide +kernel
theorem dX8_reckon_47 : decode cX8_reckon 47 = .ok (.ireturn, 1) := by decide +kernel
theorem dX8_reckon_48 : decode cX8_reckon 48 = .ok (.iload_n 1, 1) := by decide +kernel
theorem dX8_reckon_49 : decode cX8_reckon 49 = .ok (.iload_n 2, 1) := by decide +kernel
theorem dX8_reckon_50 : decode cX8_reckon 50 = .ok (.isub, 1) := by decide +kernel
theorem dX8_reckon_51 : decode cX8_reckon 51 = .ok (.ireturn, 1) := by decide +kernel
theorem dX8_reckon_52 : decode cX8_reckon 52 = .ok (.iload_n 1, 1) := by decide +kernel
theorem dX8_reckon_53 : decode cX8_reckon 53 = .ok (.iload_n 2, 1) := by decide +kernel
theorem dX8_reckon_54 : decode cX8_reckon 54 = .ok (.imul, 1) := by decide +kernel
theorem dX8_reckon_55 : decode cX8_reckon 55 = .ok (.ireturn, 1) := by decide +kernel
theorem dX8_reckon_56 : decode cX8_reckon 56 = .ok (.iload_n 2, 1) := by decide +kernel
theorem dX8_reckon_57 : decode cX8_reckon 57 = .ok (.ifCond .ne 7, 3) := by decide +kernel
theorem dX8_reckon_60 : decode cX8_reckon 60 = .ok (.iconst 0, 1) := by decide +kernel
theorem dX8_reckon_61 : decode cX8_reckon 61 = .ok (.goto 6, 3) := by decide +kernel
theorem dX8_reckon_64 : decode cX8_reckon 64 = .ok (.iload_n 1, 1) := by decide +kernel
theorem dX8_reckon_65 : decode cX8_reckon 65 = .ok (.iload_n 2, 1) := by decide +kernel
theorem dX8_reckon_66 : decode cX8_reckon 66 = .ok (.idiv, 1) := by decide +kernel
theorem dX8_reckon_67 : decode cX8_reckon 67 = .ok (.ireturn, 1) := by decide +kernel
theorem dX8_reckon_68 : decode cX8_reckon 68 = .ok (.iload_n 1, 1) := by decide +kernel
theorem dX8_reckon_69 : decode cX8_reckon 69 = .ok (.iload_n 2, 1) := by decide +kernel
theorem dX8_reckon_70 : decode cX8_reckon 70 = .ok (.if_icmp .ge 7, 3) := by decide +kernel
theorem dX8_reckon_73 : decode cX8_reckon 73 = .ok (.iconst 1, 1) := by decide +kernel
theorem dX8_reckon_74 : decode cX8_reckon 74 = .ok (.goto 4, 3) := by decide +kernel
theorem dX8_reckon_77 : decode cX8_reckon 77 = .ok (.iconst 0, 1) := by decide +kernel
theorem dX8_reckon_78 : decode cX8_reckon 78 = .ok (.ireturn, 1) := by decide +kernel
theorem dX8_reckon_79 : decode cX8_reckon 79 = .ok (.iload_n 1, 1) := by decide +kernel
theorem dX8_reckon_80 : decode cX8_reckon 80 = .ok (.iload_n 2, 1) := by decide +kernel
theorem dX8_reckon_81 : decode cX8_reckon 81 = .ok (.if_icmp .ne 7, 3) := by decide +kernel
theorem dX8_reckon_84 : decode cX8_reckon 84 = .ok (.iconst 1, 1) := by decide +kernel
theorem dX8_reckon_85 : decode cX8_reckon 85 = .ok (.goto 4, 3) := by decide +kernel
theorem dX8_reckon_88 : decode cX8_reckon 88 = .ok (.iconst 0, 1) := by decide +kernel
theorem dX8_reckon_89 : decode cX8_reckon 89 = .ok (.ireturn, 1) := by decide +kernel
theorem dX8_reckon_90 : decode cX8_reckon 90 = .ok (.iload_n 1, 1) := by decide +kernel
theorem dX8_reckon_91 : decode cX8_reckon 91 = .ok (.ifCond .eq 11, 3) := by decide +kernel
theorem dX8_reckon_94 : decode cX8_reckon 94 = .ok (.iload_n 2, 1) := by decide +kernel
theorem dX8_reckon_95 : decode cX8_reckon 95 = .ok (.ifCond .eq 7, 3) := by decide +kernel
theorem dX8_reckon_98 : decode cX8_reckon 98 = .ok (.iconst 1, 1) := by decide +kernel
theorem dX8_reckon_99 : decode cX8_reckon 99 = .ok (.goto 4, 3) := by decide +kernel
theorem dX8_reckon_102 : decode cX8_reckon 102 = .ok (.iconst 0, 1) := by decide +kernel
theorem dX8_reckon_103 : decode cX8_reckon 103 = .ok (.ireturn, 1) := by decide +kernel
theorem dX8_reckon_104 : decode cX8_reckon 104 = .ok (.iload_n 1, 1) := by decide +kernel
theorem dX8_reckon_105 : decode cX8_reckon 105 = .ok (.ifCond .ne 7, 3) := by decide +kernel
theorem dX8_reckon_108 : decode cX8_reckon 108 = .ok (.iload_n 2, 1) := by decide +kernel
theorem dX8_reckon_109 : decode cX8_reckon 109 = .ok (.ifCond .eq 7, 3) := by decide +kernel
theorem dX8_reckon_112 : decode cX8_reckon 112 = .ok (.iconst 1, 1) := by decide +kernel
theorem dX8_reckon_113 : decode cX8_reckon 113 = .ok (.goto 4, 3) := by decide +kernel
theorem dX8_reckon_116 : decode cX8_reckon 116 = .ok (.iconst 0, 1) := by decide +kernel
theorem dX8_reckon_117 : decode cX8_reckon 117 = .ok (.ireturn, 1) := by decide +kernel
theorem dX8_valueNow_0 : decode cX8_valueNow 0 = .ok (.iconst 0, 1) := by decide +kernel
theorem dX8_valueNow_1 : decode cX8_valueNow 1 = .ok (.istore_n 1, 1) := by decide +kernel
theorem dX8_valueNow_2 : decode cX8_valueNow 2 = .ok (.iconst 0, 1) := by decide +kernel
theorem dX8_valueNow_3 : decode cX8_valueNow 3 = .ok (.istore_n 2, 1) := by decide +kernel
theorem dX8_valueNow_4 : decode cX8_valueNow 4 = .ok (.iload_n 2, 1) := by decide +kernel
theorem dX8_valueNow_5 : decode cX8_valueNow 5 = .ok (.aload_n 0, 1) := by decide +kernel
theorem dX8_valueNow_6 : decode cX8_valueNow 6 = .ok (.getfield 34, 3) := by decide +kernel
theorem dX8_valueNow_9 : decode cX8_valueNow 9 = .ok (.bipush 6, 2) := by decide +kernel
theorem dX8_valueNow_11 : decode cX8_valueNow 11 = .ok (.iaload, 1) := by decide +kernel
theorem dX8_valueNow_12 : decode cX8_valueNow 12 = .ok (.if_icmp .ge 112, 3) := by decide +kernel
theorem dX8_valueNow_15 : decode cX8_valueNow 15 = .ok (.aload_n 0, 1) := by decide +kernel
theorem dX8_valueNow_16 : decode cX8_valueNow 16 = .ok (.getfield 57, 3) := by decide +kernel
theorem dX8_valueNow_19 : decode cX8_valueNow 19 = .ok (.iload_n 2, 1) := by decide +kernel
theorem dX8_valueNow_20 : decode cX8_valueNow 20 = .ok (.iaload, 1) := by decide +kernel
theorem dX8_valueNow_21 : decode cX8_valueNow 21 = .ok (.istore_n 3, 1) := by decide +kernel
theorem dX8_valueNow_22 : decode cX8_valueNow 22 = .ok (.iload_n 3, 1) := by decide +kernel
theorem dX8_valueNow_23 : decode cX8_valueNow 23 = .ok (.bipush (-20), 2) := by decide +kernel
theorem dX8_valueNow_25 : decode cX8_valueNow 25 = .ok (.if_icmp .le 31, 3) := by decide +kernel
theorem dX8_valueNow_28 : decode cX8_valueNow 28 = .ok (.aload_n 0, 1) := by decide +kernel
theorem dX8_valueNow_29 : decode cX8_valueNow 29 = .ok (.getfield 88, 3) := by decide +kernel
theorem dX8_valueNow_32 : decode cX8_valueNow 32 = .ok (.iload_n 1, 1) := by decide +kernel
theorem dX8_valueNow_33 : decode cX8_valueNow 33 = .ok (.iload_n 3, 1) := by decide +kernel
theorem dX8_valueNow_34 : decode cX8_valueNow 34 = .ok (.ifCond .lt 7, 3) := by decide +kernel
theorem dX8_valueNow_37 : decode cX8_valueNow 37 = .ok (.iload_n 3, 1) := by decide +kernel
theorem dX8_valueNow_38 : decode cX8_valueNow 38 = .ok (.goto 11, 3) := by decide +kernel
theorem dX8_valueNow_41 : decode cX8_valueNow 41 = .ok (.aload_n 0, 1) := by decide +kernel
theorem dX8_valueNow_42 : decode cX8_valueNow 42 = .ok (.getfield 85, 3) := by decide +kernel
theorem dX8_valueNow_45 : decode cX8_valueNow 45 = .ok (.iconst (-1), 1) := by decide +kernel
theorem dX8_valueNow_46 : decode cX8_valueNow 46 = .ok (.iload_n 3, 1) := by decide +kernel
theorem dX8_valueNow_47 : decode cX8_valueNow 47 = .ok (.isub, 1) := by decide +kernel
theorem dX8_valueNow_48 : decode cX8_valueNow 48 = .ok (.iaload, 1) := by decide +kernel
theorem dX8_valueNow_49 : decode cX8_valueNow 49 = .ok (.iastore, 1) := by decide +kernel
theorem dX8_valueNow_50 : decode cX8_valueNow 50 = .ok (.iinc 1 1, 3) := by decide +kernel
theorem dX8_valueNow_53 : decode cX8_valueNow 53 = .ok (.goto 65, 3) := by decide +kernel
theorem dX8_valueNow_56 : decode cX8_valueNow 56 = .ok (.iload_n 3, 1) := by decide +kernel
theorem dX8_valueNow_57 : decode cX8_valueNow 57 = .ok (.bipush (-28), 2) := by decide +kernel
theorem dX8_valueNow_59 : decode cX8_valueNow 59 = .ok (.if_icmp .ne 30, 3) := by decide +kernel
theorem dX8_valueNow_62 : decode cX8_valueNow 62 = .ok (.aload_n 0, 1) := by decide +kernel
theorem dX8_valueNow_63 : decode cX8_valueNow 63 = .ok (.getfield 88, 3) := by decide +kernel
theorem dX8_valueNow_66 : decode cX8_valueNow 66 = .ok (.iload_n 1, 1) := by decide +kernel
theorem dX8_valueNow_67 : decode cX8_valueNow 67 = .ok (.iconst 1, 1) := by decide +kernel
theorem dX8_valueNow_68 : decode cX8_valueNow 68 = .ok (.isub, 1) := by decide +kernel
theorem dX8_valueNow_69 : decode cX8_valueNow 69 = .ok (.aload_n 0, 1) := by decide +kernel
theorem dX8_valueNow_70 : decode cX8_valueNow 70 = .ok (.getfield 88, 3) := by decide +kernel
theorem dX8_valueNow_73 : decode cX8_valueNow 73 = .ok (.iload_n 1, 1) := by decide +kernel
theorem dX8_valueNow_74 : decode cX8_valueNow 74 = .ok (.iconst 1, 1) := by decide +kernel
theorem dX8_valueNow_75 : decode cX8_valueNow 75 = .ok (.isub, 1) := by decide +kernel
theorem dX8_valueNow_76 : decode cX8_valueNow 76 = .ok (.iaload, 1) := by decide +kernel
theorem dX8_valueNow_77 : decode cX8_valueNow 77 = .ok (.ifCond .eq 7, 3) := by decide +kernel
theorem dX8_valueNow_80 : decode cX8_valueNow 80 = .ok (.iconst 0, 1) := by decide +kernel
theorem dX8_valueNow_81 : decode cX8_valueNow 81 = .ok (.goto 4, 3) := by decide +kernel
theorem dX8_valueNow_84 : decode cX8_valueNow 84 = .ok (.iconst 1, 1) := by decide +kernel
theorem dX8_valueNow_85 : decode cX8_valueNow 85 = .ok (.iastore, 1) := by decide +kernel
theorem dX8_valueNow_86 : decode cX8_valueNow 86 = .ok (.goto 32, 3) := by decide +kernel
theorem dX8_valueNow_89 : decode cX8_valueNow 89 = .ok (.iinc 1 (-1), 3) := by decide +kernel
theorem dX8_valueNow_92 : decode cX8_valueNow 92 = .ok (.aload_n 0, 1) := by decide +kernel
theorem dX8_valueNow_93 : decode cX8_valueNow 93 = .ok (.getfield 88, 3) := by decide +kernel
theorem dX8_valueNow_96 : decode cX8_valueNow 96 = .ok (.iload_n 1, 1) := by decide +kernel
theorem dX8_valueNow_97 : decode cX8_valueNow 97 = .ok (.iconst 1, 1) := by decide +kernel
theorem dX8_valueNow_98 : decode cX8_valueNow 98 = .ok (.isub, 1) := by decide +kernel
theorem dX8_valueNow_99 : decode cX8_valueNow 99 = .ok (.iload_n 3, 1) := by decide +kernel
theorem dX8_valueNow_100 : decode cX8_valueNow 100 = .ok (.aload_n 0, 1) := by decide +kernel
theorem dX8_valueNow_101 : decode cX8_valueNow 101 = .ok (.getfield 88, 3) := by decide +kernel
theorem dX8_valueNow_104 : decode cX8_valueNow 104 = .ok (.iload_n 1, 1) := by decide +kernel
theorem dX8_valueNow_105 : decode cX8_valueNow 105 = .ok (.iconst 1, 1) := by decide +kernel
theorem dX8_valueNow_106 : decode cX8_valueNow 106 = .ok (.isub, 1) := by decide +kernel
theorem dX8_valueNow_107 : decode cX8_valueNow 107 = .ok (.iaload, 1) := by decide +kernel
theorem dX8_valueNow_108 : decode cX8_valueNow 108 = .ok (.aload_n 0, 1) := by decide +kernel
theorem dX8_valueNow_109 : decode cX8_valueNow 109 = .ok (.getfield 88, 3) := by decide +kernel
theorem dX8_valueNow_112 : decode cX8_valueNow 112 = .ok (.iload_n 1, 1) := by decide +kernel
theorem dX8_valueNow_113 : decode cX8_valueNow 113 = .ok (.iaload, 1) := by decide +kernel
theorem dX8_valueNow_114 : decode cX8_valueNow 114 = .ok (.invokestatic 336, 3) := by decide +kernel
theorem dX8_valueNow_117 : decode cX8_valueNow 117 = .ok (.iastore, 1) := by decide +kernel
theorem dX8_valueNow_118 : decode cX8_valueNow 118 = .ok (.iinc 2 1, 3) := by decide +kernel
theorem dX8_valueNow_121 : decode cX8_valueNow 121 = .ok (.goto (-117), 3) := by decide +kernel
theorem dX8_valueNow_124 : decode cX8_valueNow 124 = .ok (.aload_n 0, 1) := by decide +kernel
theorem dX8_valueNow_125 : decode cX8_valueNow 125 = .ok (.getfield 88, 3) := by decide +kernel
theorem dX8_valueNow_128 : decode cX8_valueNow 128 = .ok (.iconst 0, 1) := by decide +kernel
theorem dX8_valueNow_129 : decode cX8_valueNow 129 = .ok (.iaload, 1) := by decide +kernel
theorem dX8_valueNow_130 : decode cX8_valueNow 130 = .ok (.ireturn, 1) := by decide +kernel
theorem dX8_set_0 : decode cX8_set 0 = .ok (.aload_n 0, 1) := by decide +kernel
theorem dX8_set_1 : decode cX8_set 1 = .ok (.iconst (-1), 1) := by decide +kernel
theorem dX8_set_2 : decode cX8_set 2 = .ok (.putfield 100, 3) := by decide +kernel
theorem dX8_set_5 : decode cX8_set 5 = .ok (.aload_n 0, 1) := by decide +kernel
theorem dX8_set_6 : decode cX8_set 6 = .ok (.iconst 0, 1) := by decide +kernel
theorem dX8_set_7 : decode cX8_set 7 = .ok (.putfield 340, 3) := by decide +kernel
theorem dX8_set_10 : decode cX8_set 10 = .ok (.aload_n 0, 1) := by decide +kernel
theorem dX8_set_11 : decode cX8_set 11 = .ok (.iconst (-1), 1) := by decide +kernel
theorem dX8_set_12 : decode cX8_set 12 = .ok (.putfield 103, 3) := by decide +kernel
theorem dX8_set_15 : decode cX8_set 15 = .ok (.aload_n 0, 1) := by decide +kernel
theorem dX8_set_16 : decode cX8_set 16 = .ok (.iconst 0, 1) := by decide +kernel
theorem dX8_set_17 : decode cX8_set 17 = .ok (.putfield 343, 3) := by decide +kernel
theorem dX8_set_20 : decode cX8_set 20 = .ok (.iconst 0, 1) := by decide +kernel
theorem dX8_set_21 : decode cX8_set 21 = .ok (.istore_n 1, 1) := by decide +kernel
theorem dX8_set_22 : decode cX8_set 22 = .ok (.iload_n 1, 1) := by decide +kernel
theorem dX8_set_23 : decode cX8_set 23 = .ok (.aload_n 0, 1) := by decide +kernel
theorem dX8_set_24 : decode cX8_set 24 = .ok (.getfield 34, 3) := by decide +kernel
theorem dX8_set_27 : decode cX8_set 27 = .ok (.iconst 4, 1) := by decide +kernel
theorem dX8_set_28 : decode cX8_set 28 = .ok (.iaload, 1) := by decide +kernel
theorem dX8_set_29 : decode cX8_set 29 = .ok (.if_icmp .ge 35, 3) := by decide +kernel
theorem dX8_set_32 : decode cX8_set 32 = .ok (.aload_n 0, 1) := by decide +kernel
theorem dX8_set_33 : decode cX8_set 33 = .ok (.dup, 1) := by decide +kernel
theorem dX8_set_34 : decode cX8_set 34 = .ok (.getfield 343, 3) := by decide +kernel
theorem dX8_set_37 : decode cX8_set 37 = .ok (.aload_n 0, 1) := by decide +kernel
theorem dX8_set_38 : decode cX8_set 38 = .ok (.getfield 41, 3) := by decide +kernel
theorem dX8_set_41 : decode cX8_set 41 = .ok (.iload_n 1, 1) := by decide +kernel
theorem dX8_set_42 : decode cX8_set 42 = .ok (.iaload, 1) := by decide +kernel
theorem dX8_set_43 : decode cX8_set 43 = .ok (.iconst 1, 1) := by decide +kernel
theorem dX8_set_44 : decode cX8_set 44 = .ok (.if_icmp .ne 9, 3) := by decide +kernel
theorem dX8_set_47 : decode cX8_set 47 = .ok (.iconst 1, 1) := by decide +kernel
theorem dX8_set_48 : decode cX8_set 48 = .ok (.iload_n 1, 1) := by decide +kernel
theorem dX8_set_49 : decode cX8_set 49 = .ok (.ishl, 1) := by decide +kernel
theorem dX8_set_50 : decode cX8_set 50 = .ok (.goto 4, 3) := by decide +kernel
theorem dX8_set_53 : decode cX8_set 53 = .ok (.iconst 0, 1) := by decide +kernel
theorem dX8_set_54 : decode cX8_set 54 = .ok (.ior, 1) := by decide +kernel
theorem dX8_set_55 : decode cX8_set 55 = .ok (.putfield 343, 3) := by decide +kernel
theorem dX8_set_58 : decode cX8_set 58 = .ok (.iinc 1 1, 3) := by decide +kernel
theorem dX8_set_61 : decode cX8_set 61 = .ok (.goto (-39), 3) := by decide +kernel
theorem dX8_set_64 : decode cX8_set 64 = .ok (.return_, 1) := by decide +kernel
theorem dX8_tellStops_0 : decode cX8_tellStops 0 = .ok (.iconst 0, 1) := by decide +kernel
theorem dX8_tellStops_1 : decode cX8_tellStops 1 = .ok (.istore_n 1, 1) := by decide +kernel
theorem dX8_tellStops_2 : decode cX8_tellStops 2 = .ok (.iload_n 1, 1) := by decide +kernel
theorem dX8_tellStops_3 : decode cX8_tellStops 3 = .ok (.aload_n 0, 1) := by decide +kernel
theorem dX8_tellStops_4 : decode cX8_tellStops 4 = .ok (.getfield 34, 3) := by decide +kernel
theorem dX8_tellStops_7 : decode cX8_tellStops 7 = .ok (.iconst 4, 1) := by decide +kernel
theorem dX8_tellStops_8 : decode cX8_tellStops 8 = .ok (.iaload, 1) := by decide +kernel
theorem dX8_tellStops_9 : decode cX8_tellStops 9 = .ok (.if_icmp .ge 123, 3) := by decide +kernel
theorem dX8_tellStops_12 : decode cX8_tellStops 12 = .ok (.aload_n 0, 1) := by decide +kernel
theorem dX8_tellStops_13 : decode cX8_tellStops 13 = .ok (.getfield 44, 3) := by decide +kernel
theorem dX8_tellStops_16 : decode cX8_tellStops 16 = .ok (.iload_n 1, 1) := by decide +kernel
theorem dX8_tellStops_17 : decode cX8_tellStops 17 = .ok (.iaload, 1) := by decide +kernel
theorem dX8_tellStops_18 : decode cX8_tellStops 18 = .ok (.istore_n 2, 1) := by decide +kernel
theorem dX8_tellStops_19 : decode cX8_tellStops 19 = .ok (.iconst 0, 1) := by decide +kernel
theorem dX8_tellStops_20 : decode cX8_tellStops 20 = .ok (.istore_n 3, 1) := by decide +kernel
theorem dX8_tellStops_21 : decode cX8_tellStops 21 = .ok (.iload_n 3, 1) := by decide +kernel
theorem dX8_tellStops_22 : decode cX8_tellStops 22 = .ok (.aload_n 0, 1) := by decide +kernel
theorem dX8_tellStops_23 : decode cX8_tellStops 23 = .ok (.getfield 49, 3) := by decide +kernel
theorem dX8_tellStops_26 : decode cX8_tellStops 26 = .ok (.iload_n 1, 1) := by decide +kernel
theorem dX8_tellStops_27 : decode cX8_tellStops 27 = .ok (.iaload, 1) := by decide +kernel
theorem dX8_tellStops_28 : decode cX8_tellStops 28 = .ok (.if_icmp .ge 98, 3) := by decide +kernel
theorem dX8_tellStops_31 : decode cX8_tellStops 31 = .ok (.aload_n 0, 1) := by decide +kernel
theorem dX8_tellStops_32 : decode cX8_tellStops 32 = .ok (.getfield 52, 3) := by decide +kernel
theorem dX8_tellStops_35 : decode cX8_tellStops 35 = .ok (.bipush 7, 2) := by decide +kernel
theorem dX8_tellStops_37 : decode cX8_tellStops 37 = .ok (.iload_n 1, 1) := by decide +kernel
theorem dX8_tellStops_38 : decode cX8_tellStops 38 = .ok (.imul, 1) := by decide +kernel
theorem dX8_tellStops_39 : decode cX8_tellStops 39 = .ok (.iload_n 1, 1) := by decide +kernel
theorem dX8_tellStops_40 : decode cX8_tellStops 40 = .ok (.aload_n 0, 1) := by decide +kernel
theorem dX8_tellStops_41 : decode cX8_tellStops 41 = .ok (.getfield 100, 3) := by decide +kernel
theorem dX8_tellStops_44 : decode cX8_tellStops 44 = .ok (.if_icmp .ne 16, 3) := by decide +kernel
theorem dX8_tellStops_47 : decode cX8_tellStops 47 = .ok (.aload_n 0, 1) := by decide +kernel
theorem dX8_tellStops_48 : decode cX8_tellStops 48 = .ok (.getfield 49, 3) := by decide +kernel
theorem dX8_tellStops_51 : decode cX8_tellStops 51 = .ok (.iload_n 1, 1) := by decide +kernel
theorem dX8_tellStops_52 : decode cX8_tellStops 52 = .ok (.iaload, 1) := by decide +kernel
theorem dX8_tellStops_53 : decode cX8_tellStops 53 = .ok (.iconst 1, 1) := by decide +kernel
theorem dX8_tellStops_54 : decode cX8_tellStops 54 = .ok (.isub, 1) := by decide +kernel
theorem dX8_tellStops_55 : decode cX8_tellStops 55 = .ok (.iload_n 3, 1) := by decide +kernel
theorem dX8_tellStops_56 : decode cX8_tellStops 56 = .ok (.isub, 1) := by decide +kernel
theorem dX8_tellStops_57 : decode cX8_tellStops 57 = .ok (.goto 4, 3) := by decide +kernel
theorem dX8_tellStops_60 : decode cX8_tellStops 60 = .ok (.iload_n 3, 1) := by decide +kernel
theorem dX8_tellStops_61 : decode cX8_tellStops 61 = .ok (.iadd, 1) := by decide +kernel
theorem dX8_tellStops_62 : decode cX8_tellStops 62 = .ok (.iaload, 1) := by decide +kernel
theorem dX8_tellStops_63 : decode cX8_tellStops 63 = .ok (.istore 4, 2) := by decide +kernel
theorem dX8_tellStops_65 : decode cX8_tellStops 65 = .ok (.iload_n 3, 1) := by decide +kernel
theorem dX8_tellStops_66 : decode cX8_tellStops 66 = .ok (.ifCond .le 29, 3) := by decide +kernel
theorem dX8_tellStops_69 : decode cX8_tellStops 69 = .ok (.iload_n 2, 1) := by decide +kernel
theorem dX8_tellStops_70 : decode cX8_tellStops 70 = .ok (.aload_n 0, 1) := by decide +kernel
theorem dX8_tellStops_71 : decode cX8_tellStops 71 = .ok (.getfield 38, 3) := by decide +kernel
theorem dX8_tellStops_74 : decode cX8_tellStops 74 = .ok (.aload_n 0, 1) := by decide +kernel
theorem dX8_tellStops_75 : decode cX8_tellStops 75 = .ok (.getfield 91, 3) := by decide +kernel
theorem dX8_tellStops_78 : decode cX8_tellStops 78 = .ok (.bipush 7, 2) := by decide +kernel
theorem dX8_tellStops_80 : decode cX8_tellStops 80 = .ok (.iload_n 1, 1) := by decide +kernel
theorem dX8_tellStops_81 : decode cX8_tellStops 81 = .ok (.imul, 1) := by decide +kernel
theorem dX8_tellStops_82 : decode cX8_tellStops 82 = .ok (.iload_n 3, 1) := by decide +kernel
theorem dX8_tellStops_83 : decode cX8_tellStops 83 = .ok (.iadd, 1) := by decide +kernel
theorem dX8_tellStops_84 : decode cX8_tellStops 84 = .ok (.iconst 1, 1) := by decide +kernel
theorem dX8_tellStops_85 : decode cX8_tellStops 85 = .ok (.isub, 1) := by decide +kernel
theorem dX8_tellStops_86 : decode cX8_tellStops 86 = .ok (.iaload, 1) := by decide +kernel
theorem dX8_tellStops_87 : decode cX8_tellStops 87 = .ok (.iload 4, 2) := by decide +kernel
theorem dX8_tellStops_89 : decode cX8_tellStops 89 = .ok (.invokestatic 276, 3) := by decide +kernel
theorem dX8_tellStops_92 : decode cX8_tellStops 92 = .ok (.iaload, 1) := by decide +kernel
theorem dX8_tellStops_93 : decode cX8_tellStops 93 = .ok (.iadd, 1) := by decide +kernel
theorem dX8_tellStops_94 : decode cX8_tellStops 94 = .ok (.istore_n 2, 1) := by decide +kernel
theorem dX8_tellStops_95 : decode cX8_tellStops 95 = .ok (.aload_n 0, 1) := by decide +kernel
theorem dX8_tellStops_96 : decode cX8_tellStops 96 = .ok (.getfield 91, 3) := by decide +kernel
theorem dX8_tellStops_99 : decode cX8_tellStops 99 = .ok (.bipush 7, 2) := by decide +kernel
theorem dX8_tellStops_101 : decode cX8_tellStops 101 = .ok (.iload_n 1, 1) := by decide +kernel
theorem dX8_tellStops_102 : decode cX8_tellStops 102 = .ok (.imul, 1) := by decide +kernel
theorem dX8_tellStops_103 : decode cX8_tellStops 103 = .ok (.iload_n 3, 1) := by decide +kernel
theorem dX8_tellStops_104 : decode cX8_tellStops 104 = .ok (.iadd, 1) := by decide +kernel
theorem dX8_tellStops_105 : decode cX8_tellStops 105 = .ok (.iload 4, 2) := by decide +kernel
theorem dX8_tellStops_107 : decode cX8_tellStops 107 = .ok (.iastore, 1) := by decide +kernel
theorem dX8_tellStops_108 : decode cX8_tellStops 108 = .ok (.aload_n 0, 1) := by decide +kernel
theorem dX8_tellStops_109 : decode cX8_tellStops 109 = .ok (.getfield 94, 3) := by decide +kernel
theorem dX8_tellStops_112 : decode cX8_tellStops 112 = .ok (.bipush 7, 2) := by decide +kernel
theorem dX8_tellStops_114 : decode cX8_tellStops 114 = .ok (.iload_n 1, 1) := by decide +kernel
theorem dX8_tellStops_115 : decode cX8_tellStops 115 = .ok (.imul, 1) := by decide +kernel
theorem dX8_tellStops_116 : decode cX8_tellStops 116 = .ok (.iload_n 3, 1) := by decide +kernel
theorem dX8_tellStops_117 : decode cX8_tellStops 117 = .ok (.iadd, 1) := by decide +kernel
theorem dX8_tellStops_118 : decode cX8_tellStops 118 = .ok (.iload_n 2, 1) := by decide +kernel
theorem dX8_tellStops_119 : decode cX8_tellStops 119 = .ok (.iastore, 1) := by decide +kernel
theorem dX8_tellStops_120 : decode cX8_tellStops 120 = .ok (.iinc 3 1, 3) := by decide +kernel
theorem dX8_tellStops_123 : decode cX8_tellStops 123 = .ok (.goto (-102), 3) := by decide +kernel
theorem dX8_tellStops_126 : decode cX8_tellStops 126 = .ok (.iinc 1 1, 3) := by decide +kernel
theorem dX8_tellStops_129 : decode cX8_tellStops 129 = .ok (.goto (-127), 3) := by decide +kernel
theorem dX8_tellStops_132 : decode cX8_tellStops 132 = .ok (.return_, 1) := by decide +kernel
theorem dX8_townOn_0 : decode cX8_townOn 0 = .ok (.iconst 0, 1) := by decide +kernel
theorem dX8_townOn_1 : decode cX8_townOn 1 = .ok (.istore_n 3, 1) := by decide +kernel
theorem dX8_townOn_2 : decode cX8_townOn 2 = .ok (.iload_n 3, 1) := by decide +kernel
theorem dX8_townOn_3 : decode cX8_townOn 3 = .ok (.aload_n 0, 1) := by decide +kernel
theorem dX8_townOn_4 : decode cX8_townOn 4 = .ok (.getfield 49, 3) := by decide +kernel
theorem dX8_townOn_7 : decode cX8_townOn 7 = .ok (.iload_n 1, 1) := by decide +kernel
theorem dX8_townOn_8 : decode cX8_townOn 8 = .ok (.iaload, 1) := by decide +kernel
theorem dX8_townOn_9 : decode cX8_townOn 9 = .ok (.if_icmp .ge 36, 3) := by decide +kernel
theorem dX8_townOn_12 : decode cX8_townOn 12 = .ok (.aload_n 0, 1) := by decide +kernel
theorem dX8_townOn_13 : decode cX8_townOn 13 = .ok (.getfield 94, 3) := by decide +kernel
theorem dX8_townOn_16 : decode cX8_townOn 16 = .ok (.bipush 7, 2) := by decide +kernel
theorem dX8_townOn_18 : decode cX8_townOn 18 = .ok (.iload_n 1, 1) := by decide +kernel
theorem dX8_townOn_19 : decode cX8_townOn 19 = .ok (.imul, 1) := by decide +kernel
theorem dX8_townOn_20 : decode cX8_townOn 20 = .ok (.iload_n 3, 1) := by decide +kernel
theorem dX8_townOn_21 : decode cX8_townOn 21 = .ok (.iadd, 1) := by decide +kernel
theorem dX8_townOn_22 : decode cX8_townOn 22 = .ok (.iaload, 1) := by decide +kernel
theorem dX8_townOn_23 : decode cX8_townOn 23 = .ok (.iload_n 2, 1) := by decide +kernel
theorem dX8_townOn_24 : decode cX8_townOn 24 = .ok (.if_icmp .ne 15, 3) := by decide +kernel
theorem dX8_townOn_27 : decode cX8_townOn 27 = .ok (.aload_n 0, 1) := by decide +kernel
theorem dX8_townOn_28 : decode cX8_townOn 28 = .ok (.getfield 91, 3) := by decide +kernel
theorem dX8_townOn_31 : decode cX8_townOn 31 = .ok (.bipush 7, 2) := by decide +kernel
theorem dX8_townOn_33 : decode cX8_townOn 33 = .ok (.iload_n 1, 1) := by decide +kernel
theorem dX8_townOn_34 : decode cX8_townOn 34 = .ok (.imul, 1) := by decide +kernel
theorem dX8_townOn_35 : decode cX8_townOn 35 = .ok (.iload_n 3, 1) := by decide +kernel
theorem dX8_townOn_36 : decode cX8_townOn 36 = .ok (.iadd, 1) := by decide +kernel
theorem dX8_townOn_37 : decode cX8_townOn 37 = .ok (.iaload, 1) := by decide +kernel
theorem dX8_townOn_38 : decode cX8_townOn 38 = .ok (.ireturn, 1) := by decide +kernel
theorem dX8_townOn_39 : decode cX8_townOn 39 = .ok (.iinc 3 1, 3) := by decide +kernel
theorem dX8_townOn_42 : decode cX8_townOn 42 = .ok (.goto (-40), 3) := by decide +kernel
theorem dX8_townOn_45 : decode cX8_townOn 45 = .ok (.iconst (-1), 1) := by decide +kernel
theorem dX8_townOn_46 : decode cX8_townOn 46 = .ok (.ireturn, 1) := by decide +kernel
def f_X8_pack_73  (c1 : Nat) (z1 : Nat) (r1 : Nat) : Nat → Mem → Int32 → Int32 → Option (Mem)
  | 0, _, _, _ => none
  | fu + 1, I, v3, v4 =>
    if (12 : Int32) ≤ v4 then (some I) else (gd (inb v4 15) <|
    gd (inb (v3 + v4) (cL c1 z1)) <|
    bnd (upd4 I c1 z1 r1 ((v3 + v4).toNatClampNeg) (I 62 0 0 v4.toNatClampNeg)) fun I1' =>
    gd (inb v4 12) <|
    gd (inb ((v3 + (12 : Int32)) + v4) (cL c1 z1)) <|
    bnd (upd4 I1' c1 z1 r1 (((v3 + (12 : Int32)) + v4).toNatClampNeg) (I1' 63 0 0 v4.toNatClampNeg)) fun I2' =>
    gd (inb v4 18) <|
    gd (inb ((v3 + (24 : Int32)) + v4) (cL c1 z1)) <|
    bnd (upd4 I2' c1 z1 r1 (((v3 + (24 : Int32)) + v4).toNatClampNeg) (I2' 64 0 0 v4.toNatClampNeg)) fun I3' =>
    (f_X8_pack_73 c1 z1 r1 fu) I3' v3 (v4 + (1 : Int32)))
theorem b_X8_pack_73 (X : CX) (Q : State → Prop) {P : PMem} {O : Nat → Int64} {D : Bool} {n : Nat} {c1 : Nat} {z1 : Nat} {r1 : Nat} {r : (Mem)}  (hc1 : iaOK c1 z1 r1 = true) : ∀ (fu : Nat) {I : Mem} {v3 : Int32} {v4 : Int32}, f_X8_pack_73 c1 z1 r1 fu I v3 v4 = some r → EndR X cX8_pack RX8 5 (none) 2 n none r P O D Q → Here X cX8_pack RX8 5 (none) 2 n 73 [some (.inr (.inr (8, 0, 0))), some (.inr (.inr (c1, z1, r1))), none, some (.inl v3), some (.inl v4)] [] I P O D n Q := by
  intro fu
  induction fu with
  | zero => intro I v3 v4 h E; cases h
  | succ fu ih =>
  intro I v3 v4 h E
  have H73 : ∀ (I : Mem) (v3 : Int32) (v4 : Int32), f_X8_pack_73 c1 z1 r1 fu I v3 v4 = some r → Here X cX8_pack RX8 5 (none) 2 n 73 [some (.inr (.inr (8, 0, 0))), some (.inr (.inr (c1, z1, r1))), none, some (.inl v3), some (.inl v4)] [] I P O D n Q := fun _ _ _ b => ih b E
  simp only [f_X8_pack_73] at h
  refine h_iload dX8_pack_73 rfl ?_
  refine h_bipush (12 : Int32) dX8_pack_75 k_bipush_12 ?_
  refine h_icmp_ge (tgt := 131) dX8_pack_77 (by decide) (fun q1 => ?_) (fun q1 => ?_)
  · rw [if_pos q1] at h
    cases h
    exact h_vret dX8_pack_131 rfl E
  · rw [if_neg q1] at h
    refine h_aload_n dX8_pack_80 rfl ?_
    refine h_iload_n dX8_pack_81 rfl ?_
    refine h_iload dX8_pack_82 rfl ?_
    refine h_iadd dX8_pack_84 ?_
    refine h_aload_n dX8_pack_85 rfl ?_
    refine g_X8_73  dX8_pack_86 ?_
    refine h_iload dX8_pack_89 rfl ?_
    obtain ⟨g1, h⟩ := gd_some h
    refine al_62  v4.toNatClampNeg rfl dX8_pack_91 g1 ?_
    obtain ⟨g2, h⟩ := gd_some h
    obtain ⟨I1', e1, h⟩ := bnd_some h
    refine as_v hc1 ((v3 + v4).toNatClampNeg) rfl dX8_pack_92 g2 ?_
    refine h_nmI e1 ?_
    refine h_aload_n dX8_pack_93 rfl ?_
    refine h_iload_n dX8_pack_94 rfl ?_
    refine h_bipush (12 : Int32) dX8_pack_95 k_bipush_12 ?_
    refine h_iadd dX8_pack_97 ?_
    refine h_iload dX8_pack_98 rfl ?_
    refine h_iadd dX8_pack_100 ?_
    refine h_aload_n dX8_pack_101 rfl ?_
    refine g_X8_76  dX8_pack_102 ?_
    refine h_iload dX8_pack_105 rfl ?_
    obtain ⟨g3, h⟩ := gd_some h
    refine al_63  v4.toNatClampNeg rfl dX8_pack_107 g3 ?_
    obtain ⟨g4, h⟩ := gd_some h
    obtain ⟨I2', e2, h⟩ := bnd_some h
    refine as_v hc1 (((v3 + (12 : Int32)) + v4).toNatClampNeg) rfl dX8_pack_108 g4 ?_
    refine h_nmI e2 ?_
    refine h_aload_n dX8_pack_109 rfl ?_
    refine h_iload_n dX8_pack_110 rfl ?_
    refine h_bipush (24 : Int32) dX8_pack_111 k_bipush_24 ?_
    refine h_iadd dX8_pack_113 ?_
    refine h_iload dX8_pack_114 rfl ?_
    refine h_iadd dX8_pack_116 ?_
    refine h_aload_n dX8_pack_117 rfl ?_
    refine g_X8_79  dX8_pack_118 ?_
    refine h_iload dX8_pack_121 rfl ?_
    obtain ⟨g5, h⟩ := gd_some h
    refine al_64  v4.toNatClampNeg rfl dX8_pack_123 g5 ?_
    obtain ⟨g6, h⟩ := gd_some h
    obtain ⟨I3', e3, h⟩ := bnd_some h
    refine as_v hc1 (((v3 + (24 : Int32)) + v4).toNatClampNeg) rfl dX8_pack_124 g6 ?_
    refine h_nmI e3 ?_
    refine h_iinc (1 : Int32) dX8_pack_125 rfl k_iinc_1 (by decide) rfl ?_
    refine h_goto (tgt := 73) dX8_pack_128 (by decide) ?_
    exact (H73 _ _ _ h)
def f_X8_pack_5  (c1 : Nat) (z1 : Nat) (r1 : Nat) : Nat → Mem → Int32 → Int32 → Option (Mem)
  | 0, _, _, _ => none
  | fu + 1, I, v3, v4 =>
    if (5 : Int32) ≤ v4 then (gd (inb (v3 + (5 : Int32)) (cL c1 z1)) <|
    bnd (upd4 I c1 z1 r1 ((v3 + (5 : Int32)).toNatClampNeg) (I 8 0 0 29)) fun I1' =>
    gd (inb ((v3 + (5 : Int32)) + (1 : Int32)) (cL c1 z1)) <|
    bnd (upd4 I1' c1 z1 r1 (((v3 + (5 : Int32)) + (1 : Int32)).toNatClampNeg) (I1' 8 0 0 30)) fun I2' =>
    gd (inb ((v3 + (5 : Int32)) + (2 : Int32)) (cL c1 z1)) <|
    bnd (upd4 I2' c1 z1 r1 (((v3 + (5 : Int32)) + (2 : Int32)).toNatClampNeg) (I2' 8 0 0 31)) fun I3' =>
    gd (inb ((v3 + (5 : Int32)) + (3 : Int32)) (cL c1 z1)) <|
    bnd (upd4 I3' c1 z1 r1 (((v3 + (5 : Int32)) + (3 : Int32)).toNatClampNeg) (I3' 8 0 0 32)) fun I4' =>
    f_X8_pack_73 c1 z1 r1 FU I4' ((v3 + (5 : Int32)) + (4 : Int32)) (0 : Int32)) else (gd (inb v4 10) <|
    gd (inb (v3 + v4) (cL c1 z1)) <|
    bnd (upd4 I c1 z1 r1 ((v3 + v4).toNatClampNeg) (I 53 0 0 v4.toNatClampNeg)) fun I5' =>
    (f_X8_pack_5 c1 z1 r1 fu) I5' v3 (v4 + (1 : Int32)))
theorem b_X8_pack_5 (X : CX) (Q : State → Prop) {P : PMem} {O : Nat → Int64} {D : Bool} {n : Nat} {c1 : Nat} {z1 : Nat} {r1 : Nat} {r : (Mem)}  (hc1 : iaOK c1 z1 r1 = true) : ∀ (fu : Nat) {I : Mem} {v3 : Int32} {v4 : Int32}, f_X8_pack_5 c1 z1 r1 fu I v3 v4 = some r → EndR X cX8_pack RX8 5 (none) 2 n none r P O D Q → Here X cX8_pack RX8 5 (none) 2 n 5 [some (.inr (.inr (8, 0, 0))), some (.inr (.inr (c1, z1, r1))), none, some (.inl v3), some (.inl v4)] [] I P O D n Q := by
  intro fu
  induction fu with
  | zero => intro I v3 v4 h E; cases h
  | succ fu ih =>
  intro I v3 v4 h E
  have H5 : ∀ (I : Mem) (v3 : Int32) (v4 : Int32), f_X8_pack_5 c1 z1 r1 fu I v3 v4 = some r → Here X cX8_pack RX8 5 (none) 2 n 5 [some (.inr (.inr (8, 0, 0))), some (.inr (.inr (c1, z1, r1))), none, some (.inl v3), some (.inl v4)] [] I P O D n Q := fun _ _ _ b => ih b E
  simp only [f_X8_pack_5] at h
  refine h_iload dX8_pack_5 rfl ?_
  refine h_iconst (5 : Int32) dX8_pack_7 k_iconst_5 ?_
  refine h_icmp_ge (tgt := 30) dX8_pack_8 (by decide) (fun q1 => ?_) (fun q1 => ?_)
  · rw [if_pos q1] at h
    refine h_iinc (5 : Int32) dX8_pack_30 rfl k_iinc_5 (by decide) rfl ?_
    refine h_aload_n dX8_pack_33 rfl ?_
    refine h_iload_n dX8_pack_34 rfl ?_
    refine h_aload_n dX8_pack_35 rfl ?_
    refine g_X8_311  dX8_pack_36 ?_
    obtain ⟨g1, h⟩ := gd_some h
    obtain ⟨I1', e1, h⟩ := bnd_some h
    refine as_v hc1 ((v3 + (5 : Int32)).toNatClampNeg) rfl dX8_pack_39 g1 ?_
    refine h_nmI e1 ?_
    refine h_aload_n dX8_pack_40 rfl ?_
    refine h_iload_n dX8_pack_41 rfl ?_
    refine h_iconst (1 : Int32) dX8_pack_42 k_iconst_1 ?_
    refine h_iadd dX8_pack_43 ?_
    refine h_aload_n dX8_pack_44 rfl ?_
    refine g_X8_314  dX8_pack_45 ?_
    obtain ⟨g2, h⟩ := gd_some h
    obtain ⟨I2', e2, h⟩ := bnd_some h
    refine as_v hc1 (((v3 + (5 : Int32)) + (1 : Int32)).toNatClampNeg) rfl dX8_pack_48 g2 ?_
    refine h_nmI e2 ?_
    refine h_aload_n dX8_pack_49 rfl ?_
    refine h_iload_n dX8_pack_50 rfl ?_
    refine h_iconst (2 : Int32) dX8_pack_51 k_iconst_2 ?_
    refine h_iadd dX8_pack_52 ?_
    refine h_aload_n dX8_pack_53 rfl ?_
    refine g_X8_317  dX8_pack_54 ?_
    obtain ⟨g3, h⟩ := gd_some h
    obtain ⟨I3', e3, h⟩ := bnd_some h
    refine as_v hc1 (((v3 + (5 : Int32)) + (2 : Int32)).toNatClampNeg) rfl dX8_pack_57 g3 ?_
    refine h_nmI e3 ?_
    refine h_aload_n dX8_pack_58 rfl ?_
    refine h_iload_n dX8_pack_59 rfl ?_
    refine h_iconst (3 : Int32) dX8_pack_60 k_iconst_3 ?_
    refine h_iadd dX8_pack_61 ?_
    refine h_aload_n dX8_pack_62 rfl ?_
    refine g_X8_320  dX8_pack_63 ?_
    obtain ⟨g4, h⟩ := gd_some h
    obtain ⟨I4', e4, h⟩ := bnd_some h
    refine as_v hc1 (((v3 + (5 : Int32)) + (3 : Int32)).toNatClampNeg) rfl dX8_pack_66 g4 ?_
    refine h_nmI e4 ?_
    refine h_iinc (4 : Int32) dX8_pack_67 rfl k_iinc_4 (by decide) rfl ?_
    refine h_iconst (0 : Int32) dX8_pack_70 k_iconst_0 ?_
    refine h_istore dX8_pack_71 (by decide) rfl ?_
    exact (b_X8_pack_73 X Q hc1 FU  h E)
  · rw [if_neg q1] at h
    refine h_aload_n dX8_pack_11 rfl ?_
    refine h_iload_n dX8_pack_12 rfl ?_
    refine h_iload dX8_pack_13 rfl ?_
    refine h_iadd dX8_pack_15 ?_
    refine h_aload_n dX8_pack_16 rfl ?_
    refine g_X8_44  dX8_pack_17 ?_
    refine h_iload dX8_pack_20 rfl ?_
    obtain ⟨g5, h⟩ := gd_some h
    refine al_53  v4.toNatClampNeg rfl dX8_pack_22 g5 ?_
    obtain ⟨g6, h⟩ := gd_some h
    obtain ⟨I5', e5, h⟩ := bnd_some h
    refine as_v hc1 ((v3 + v4).toNatClampNeg) rfl dX8_pack_23 g6 ?_
    refine h_nmI e5 ?_
    refine h_iinc (1 : Int32) dX8_pack_24 rfl k_iinc_1 (by decide) rfl ?_
    refine h_goto (tgt := 5) dX8_pack_27 (by decide) ?_
    exact (H5 _ _ _ h)
def f_X8_pack  (c1 : Nat) (z1 : Nat) (r1 : Nat) (I : Mem) (v2 : Int32) : Option (Mem) :=
  f_X8_pack_5 c1 z1 r1 FU I v2 (0 : Int32)
theorem b_X8_pack (X : CX) (Q : State → Prop) {I : Mem} {P : PMem} {O : Nat → Int64} {D : Bool} {n : Nat} {c1 : Nat} {z1 : Nat} {r1 : Nat} {v2 : Int32} {r : (Mem)}  (hc1 : iaOK c1 z1 r1 = true) (h : f_X8_pack c1 z1 r1 I v2 = some r) (E : EndR X cX8_pack RX8 5 (none) 2 n none r P O D Q) : Here X cX8_pack RX8 5 (none) 2 n 0 [some (.inr (.inr (8, 0, 0))), some (.inr (.inr (c1, z1, r1))), some (.inl v2), none, none] [] I P O D n Q := by
  unfold f_X8_pack at h
  refine h_iload_n dX8_pack_0 rfl ?_
  refine h_istore_n dX8_pack_1 (by decide) rfl ?_
  refine h_iconst (0 : Int32) dX8_pack_2 k_iconst_0 ?_
  refine h_istore dX8_pack_3 (by decide) rfl ?_
  exact h_mask [true, true, false, true, true] (b_X8_pack_5 X Q hc1 FU  h E)
theorem m_X8_pack {I : Mem} {P : PMem} {O : Nat → Int64} {D : Bool} {n : Nat} {c1 : Nat} {z1 : Nat} {r1 : Nat} {v2 : Int32} {r : (Mem)} (hc1 : iaOK c1 z1 r1 = true) (h : f_X8_pack c1 z1 r1 I v2 = some r) : MethR yX8_pack cX8_pack 5 (none) 2 [.inr (.inr (8, 0, 0)), .inr (.inr (c1, z1, r1)), .inl v2] I P O D n none r P O D n := meth_R (Nat.le_refl _) (by decide) rfl (Nat.le_of_ble_eq_true rfl) rfl (fun X Q E => b_X8_pack X Q hc1 h E)
def f_X8_unpack_73  (c1 : Nat) (z1 : Nat) (r1 : Nat) : Nat → Mem → Int32 → Int32 → Option (Mem)
  | 0, _, _, _ => none
  | fu + 1, I, v3, v4 =>
    if (12 : Int32) ≤ v4 then (some I) else (gd (inb (v3 + v4) (cL c1 z1)) <|
    gd (inb v4 15) <|
    bnd (upd4 I 62 0 0 v4.toNatClampNeg (I c1 z1 r1 ((v3 + v4).toNatClampNeg))) fun I1' =>
    gd (inb ((v3 + (12 : Int32)) + v4) (cL c1 z1)) <|
    gd (inb v4 12) <|
    bnd (upd4 I1' 63 0 0 v4.toNatClampNeg (I1' c1 z1 r1 (((v3 + (12 : Int32)) + v4).toNatClampNeg))) fun I2' =>
    gd (inb ((v3 + (24 : Int32)) + v4) (cL c1 z1)) <|
    gd (inb v4 18) <|
    bnd (upd4 I2' 64 0 0 v4.toNatClampNeg (I2' c1 z1 r1 (((v3 + (24 : Int32)) + v4).toNatClampNeg))) fun I3' =>
    (f_X8_unpack_73 c1 z1 r1 fu) I3' v3 (v4 + (1 : Int32)))
theorem b_X8_unpack_73 (X : CX) (Q : State → Prop) {P : PMem} {O : Nat → Int64} {D : Bool} {n : Nat} {c1 : Nat} {z1 : Nat} {r1 : Nat} {r : (Mem)}  (hc1 : iaOK c1 z1 r1 = true) : ∀ (fu : Nat) {I : Mem} {v3 : Int32} {v4 : Int32}, f_X8_unpack_73 c1 z1 r1 fu I v3 v4 = some r → EndR X cX8_unpack RX8 5 (none) 2 n none r P O D Q → Here X cX8_unpack RX8 5 (none) 2 n 73 [some (.inr (.inr (8, 0, 0))), some (.inr (.inr (c1, z1, r1))), none, some (.inl v3), some (.inl v4)] [] I P O D n Q := by
  intro fu
  induction fu with
  | zero => intro I v3 v4 h E; cases h
  | succ fu ih =>
  intro I v3 v4 h E
  have H73 : ∀ (I : Mem) (v3 : Int32) (v4 : Int32), f_X8_unpack_73 c1 z1 r1 fu I v3 v4 = some r → Here X cX8_unpack RX8 5 (none) 2 n 73 [some (.inr (.inr (8, 0, 0))), some (.inr (.inr (c1, z1, r1))), none, some (.inl v3), some (.inl v4)] [] I P O D n Q := fun _ _ _ b => ih b E
  simp only [f_X8_unpack_73] at h
  refine h_iload dX8_unpack_73 rfl ?_
  refine h_bipush (12 : Int32) dX8_unpack_75 k_bipush_12 ?_
  refine h_icmp_ge (tgt := 131) dX8_unpack_77 (by decide) (fun q1 => ?_) (fun q1 => ?_)
  · rw [if_pos q1] at h
    cases h
    exact h_vret dX8_unpack_131 rfl E
  · rw [if_neg q1] at h
    refine h_aload_n dX8_unpack_80 rfl ?_
    refine g_X8_73  dX8_unpack_81 ?_
    refine h_iload dX8_unpack_84 rfl ?_
    refine h_aload_n dX8_unpack_86 rfl ?_
    refine h_iload_n dX8_unpack_87 rfl ?_
    refine h_iload dX8_unpack_88 rfl ?_
    refine h_iadd dX8_unpack_90 ?_
    obtain ⟨g1, h⟩ := gd_some h
    refine al_v hc1 ((v3 + v4).toNatClampNeg) rfl dX8_unpack_91 g1 ?_
    obtain ⟨g2, h⟩ := gd_some h
    obtain ⟨I1', e1, h⟩ := bnd_some h
    refine as_62  v4.toNatClampNeg rfl dX8_unpack_92 g2 ?_
    refine h_nmI e1 ?_
    refine h_aload_n dX8_unpack_93 rfl ?_
    refine g_X8_76  dX8_unpack_94 ?_
    refine h_iload dX8_unpack_97 rfl ?_
    refine h_aload_n dX8_unpack_99 rfl ?_
    refine h_iload_n dX8_unpack_100 rfl ?_
    refine h_bipush (12 : Int32) dX8_unpack_101 k_bipush_12 ?_
    refine h_iadd dX8_unpack_103 ?_
    refine h_iload dX8_unpack_104 rfl ?_
    refine h_iadd dX8_unpack_106 ?_
    obtain ⟨g3, h⟩ := gd_some h
    refine al_v hc1 (((v3 + (12 : Int32)) + v4).toNatClampNeg) rfl dX8_unpack_107 g3 ?_
    obtain ⟨g4, h⟩ := gd_some h
    obtain ⟨I2', e2, h⟩ := bnd_some h
    refine as_63  v4.toNatClampNeg rfl dX8_unpack_108 g4 ?_
    refine h_nmI e2 ?_
    refine h_aload_n dX8_unpack_109 rfl ?_
    refine g_X8_79  dX8_unpack_110 ?_
    refine h_iload dX8_unpack_113 rfl ?_
    refine h_aload_n dX8_unpack_115 rfl ?_
    refine h_iload_n dX8_unpack_116 rfl ?_
    refine h_bipush (24 : Int32) dX8_unpack_117 k_bipush_24 ?_
    refine h_iadd dX8_unpack_119 ?_
    refine h_iload dX8_unpack_120 rfl ?_
    refine h_iadd dX8_unpack_122 ?_
    obtain ⟨g5, h⟩ := gd_some h
    refine al_v hc1 (((v3 + (24 : Int32)) + v4).toNatClampNeg) rfl dX8_unpack_123 g5 ?_
    obtain ⟨g6, h⟩ := gd_some h
    obtain ⟨I3', e3, h⟩ := bnd_some h
    refine as_64  v4.toNatClampNeg rfl dX8_unpack_124 g6 ?_
    refine h_nmI e3 ?_
    refine h_iinc (1 : Int32) dX8_unpack_125 rfl k_iinc_1 (by decide) rfl ?_
    refine h_goto (tgt := 73) dX8_unpack_128 (by decide) ?_
    exact (H73 _ _ _ h)
def f_X8_unpack_5  (c1 : Nat) (z1 : Nat) (r1 : Nat) : Nat → Mem → Int32 → Int32 → Option (Mem)
  | 0, _, _, _ => none
  | fu + 1, I, v3, v4 =>
    if (5 : Int32) ≤ v4 then (gd (inb (v3 + (5 : Int32)) (cL c1 z1)) <|
    bnd (upd4 I 8 0 0 29 (I c1 z1 r1 ((v3 + (5 : Int32)).toNatClampNeg))) fun I1' =>
    gd (inb ((v3 + (5 : Int32)) + (1 : Int32)) (cL c1 z1)) <|
    bnd (upd4 I1' 8 0 0 30 (I1' c1 z1 r1 (((v3 + (5 : Int32)) + (1 : Int32)).toNatClampNeg))) fun I2' =>
    gd (inb ((v3 + (5 : Int32)) + (2 : Int32)) (cL c1 z1)) <|
    bnd (upd4 I2' 8 0 0 31 (I2' c1 z1 r1 (((v3 + (5 : Int32)) + (2 : Int32)).toNatClampNeg))) fun I3' =>
    gd (inb ((v3 + (5 : Int32)) + (3 : Int32)) (cL c1 z1)) <|
    bnd (upd4 I3' 8 0 0 32 (I3' c1 z1 r1 (((v3 + (5 : Int32)) + (3 : Int32)).toNatClampNeg))) fun I4' =>
    f_X8_unpack_73 c1 z1 r1 FU I4' ((v3 + (5 : Int32)) + (4 : Int32)) (0 : Int32)) else (gd (inb (v3 + v4) (cL c1 z1)) <|
    gd (inb v4 10) <|
    bnd (upd4 I 53 0 0 v4.toNatClampNeg (I c1 z1 r1 ((v3 + v4).toNatClampNeg))) fun I5' =>
    (f_X8_unpack_5 c1 z1 r1 fu) I5' v3 (v4 + (1 : Int32)))
theorem b_X8_unpack_5 (X : CX) (Q : State → Prop) {P : PMem} {O : Nat → Int64} {D : Bool} {n : Nat} {c1 : Nat} {z1 : Nat} {r1 : Nat} {r : (Mem)}  (hc1 : iaOK c1 z1 r1 = true) : ∀ (fu : Nat) {I : Mem} {v3 : Int32} {v4 : Int32}, f_X8_unpack_5 c1 z1 r1 fu I v3 v4 = some r → EndR X cX8_unpack RX8 5 (none) 2 n none r P O D Q → Here X cX8_unpack RX8 5 (none) 2 n 5 [some (.inr (.inr (8, 0, 0))), some (.inr (.inr (c1, z1, r1))), none, some (.inl v3), some (.inl v4)] [] I P O D n Q := by
  intro fu
  induction fu with
  | zero => intro I v3 v4 h E; cases h
  | succ fu ih =>
  intro I v3 v4 h E
  have H5 : ∀ (I : Mem) (v3 : Int32) (v4 : Int32), f_X8_unpack_5 c1 z1 r1 fu I v3 v4 = some r → Here X cX8_unpack RX8 5 (none) 2 n 5 [some (.inr (.inr (8, 0, 0))), some (.inr (.inr (c1, z1, r1))), none, some (.inl v3), some (.inl v4)] [] I P O D n Q := fun _ _ _ b => ih b E
  simp only [f_X8_unpack_5] at h
  refine h_iload dX8_unpack_5 rfl ?_
  refine h_iconst (5 : Int32) dX8_unpack_7 k_iconst_5 ?_
  refine h_icmp_ge (tgt := 30) dX8_unpack_8 (by decide) (fun q1 => ?_) (fun q1 => ?_)
  · rw [if_pos q1] at h
    refine h_iinc (5 : Int32) dX8_unpack_30 rfl k_iinc_5 (by decide) rfl ?_
    refine h_aload_n dX8_unpack_33 rfl ?_
    refine h_aload_n dX8_unpack_34 rfl ?_
    refine h_iload_n dX8_unpack_35 rfl ?_
    obtain ⟨g1, h⟩ := gd_some h
    refine al_v hc1 ((v3 + (5 : Int32)).toNatClampNeg) rfl dX8_unpack_36 g1 ?_
    obtain ⟨I1', e1, h⟩ := bnd_some h
    refine p_X8_311  dX8_unpack_37 ?_
    refine h_nmI e1 ?_
    refine h_aload_n dX8_unpack_40 rfl ?_
    refine h_aload_n dX8_unpack_41 rfl ?_
    refine h_iload_n dX8_unpack_42 rfl ?_
    refine h_iconst (1 : Int32) dX8_unpack_43 k_iconst_1 ?_
    refine h_iadd dX8_unpack_44 ?_
    obtain ⟨g2, h⟩ := gd_some h
    refine al_v hc1 (((v3 + (5 : Int32)) + (1 : Int32)).toNatClampNeg) rfl dX8_unpack_45 g2 ?_
    obtain ⟨I2', e2, h⟩ := bnd_some h
    refine p_X8_314  dX8_unpack_46 ?_
    refine h_nmI e2 ?_
    refine h_aload_n dX8_unpack_49 rfl ?_
    refine h_aload_n dX8_unpack_50 rfl ?_
    refine h_iload_n dX8_unpack_51 rfl ?_
    refine h_iconst (2 : Int32) dX8_unpack_52 k_iconst_2 ?_
    refine h_iadd dX8_unpack_53 ?_
    obtain ⟨g3, h⟩ := gd_some h
    refine al_v hc1 (((v3 + (5 : Int32)) + (2 : Int32)).toNatClampNeg) rfl dX8_unpack_54 g3 ?_
    obtain ⟨I3', e3, h⟩ := bnd_some h
    refine p_X8_317  dX8_unpack_55 ?_
    refine h_nmI e3 ?_
    refine h_aload_n dX8_unpack_58 rfl ?_
    refine h_aload_n dX8_unpack_59 rfl ?_
    refine h_iload_n dX8_unpack_60 rfl ?_
    refine h_iconst (3 : Int32) dX8_unpack_61 k_iconst_3 ?_
    refine h_iadd dX8_unpack_62 ?_
    obtain ⟨g4, h⟩ := gd_some h
    refine al_v hc1 (((v3 + (5 : Int32)) + (3 : Int32)).toNatClampNeg) rfl dX8_unpack_63 g4 ?_
    obtain ⟨I4', e4, h⟩ := bnd_some h
    refine p_X8_320  dX8_unpack_64 ?_
    refine h_nmI e4 ?_
    refine h_iinc (4 : Int32) dX8_unpack_67 rfl k_iinc_4 (by decide) rfl ?_
    refine h_iconst (0 : Int32) dX8_unpack_70 k_iconst_0 ?_
    refine h_istore dX8_unpack_71 (by decide) rfl ?_
    exact (b_X8_unpack_73 X Q hc1 FU  h E)
  · rw [if_neg q1] at h
    refine h_aload_n dX8_unpack_11 rfl ?_
    refine g_X8_44  dX8_unpack_12 ?_
    refine h_iload dX8_unpack_15 rfl ?_
    refine h_aload_n dX8_unpack_17 rfl ?_
    refine h_iload_n dX8_unpack_18 rfl ?_
    refine h_iload dX8_unpack_19 rfl ?_
    refine h_iadd dX8_unpack_21 ?_
    obtain ⟨g5, h⟩ := gd_some h
    refine al_v hc1 ((v3 + v4).toNatClampNeg) rfl dX8_unpack_22 g5 ?_
    obtain ⟨g6, h⟩ := gd_some h
    obtain ⟨I5', e5, h⟩ := bnd_some h
    refine as_53  v4.toNatClampNeg rfl dX8_unpack_23 g6 ?_
    refine h_nmI e5 ?_
    refine h_iinc (1 : Int32) dX8_unpack_24 rfl k_iinc_1 (by decide) rfl ?_
    refine h_goto (tgt := 5) dX8_unpack_27 (by decide) ?_
    exact (H5 _ _ _ h)
def f_X8_unpack  (c1 : Nat) (z1 : Nat) (r1 : Nat) (I : Mem) (v2 : Int32) : Option (Mem) :=
  f_X8_unpack_5 c1 z1 r1 FU I v2 (0 : Int32)
theorem b_X8_unpack (X : CX) (Q : State → Prop) {I : Mem} {P : PMem} {O : Nat → Int64} {D : Bool} {n : Nat} {c1 : Nat} {z1 : Nat} {r1 : Nat} {v2 : Int32} {r : (Mem)}  (hc1 : iaOK c1 z1 r1 = true) (h : f_X8_unpack c1 z1 r1 I v2 = some r) (E : EndR X cX8_unpack RX8 5 (none) 2 n none r P O D Q) : Here X cX8_unpack RX8 5 (none) 2 n 0 [some (.inr (.inr (8, 0, 0))), some (.inr (.inr (c1, z1, r1))), some (.inl v2), none, none] [] I P O D n Q := by
  unfold f_X8_unpack at h
  refine h_iload_n dX8_unpack_0 rfl ?_
  refine h_istore_n dX8_unpack_1 (by decide) rfl ?_
  refine h_iconst (0 : Int32) dX8_unpack_2 k_iconst_0 ?_
  refine h_istore dX8_unpack_3 (by decide) rfl ?_
  exact h_mask [true, true, false, true, true] (b_X8_unpack_5 X Q hc1 FU  h E)
theorem m_X8_unpack {I : Mem} {P : PMem} {O : Nat → Int64} {D : Bool} {n : Nat} {c1 : Nat} {z1 : Nat} {r1 : Nat} {v2 : Int32} {r : (Mem)} (hc1 : iaOK c1 z1 r1 = true) (h : f_X8_unpack c1 z1 r1 I v2 = some r) : MethR yX8_unpack cX8_unpack 5 (none) 2 [.inr (.inr (8, 0, 0)), .inr (.inr (c1, z1, r1)), .inl v2] I P O D n none r P O D n := meth_R (Nat.le_refl _) (by decide) rfl (Nat.le_of_ble_eq_true rfl) rfl (fun X Q E => b_X8_unpack X Q hc1 h E)
def f_X8_reckon  (I : Mem) (v0 : Int32) (v1 : Int32) (v2 : Int32) : Option (Int32) :=
  (if v0 = (-26 : Int32) then (if v1 = 0 then (some (0 : Int32)) else (if v2 = 0 then (some (0 : Int32)) else (some (1 : Int32)))) else (if v0 = (-25 : Int32) then (if v1 = v2 then (some (1 : Int32)) else (some (0 : Int32))) else (if v0 = (-24 : Int32) then (if v2 ≤ v1 then (some (0 : Int32)) else (some (1 : Int32))) else (if v0 = (-23 : Int32) then (if v2 = 0 then (some (0 : Int32)) else (gd (v2 != 0) <|
  some (v1 / v2))) else (if v0 = (-22 : Int32) then (some (v1 * v2)) else (if v0 = (-21 : Int32) then (some (v1 - v2)) else (if v0 = (-20 : Int32) then (some (v1 + v2)) else (if v1 = 0 then (if v2 = 0 then (some (0 : Int32)) else (some (1 : Int32))) else (some (1 : Int32))))))))))
theorem b_X8_reckon (X : CX) (Q : State → Prop) {I : Mem} {P : PMem} {O : Nat → Int64} {D : Bool} {n : Nat} {v0 : Int32} {v1 : Int32} {v2 : Int32} {r : (Int32)}  (h : f_X8_reckon I v0 v1 v2 = some r) (E : EndR X cX8_reckon RX8 3 (some .int) 2 n (some (.inl r)) I P O D Q) : Here X cX8_reckon RX8 3 (some .int) 2 n 0 [some (.inl v0), some (.inl v1), some (.inl v2)] [] I P O D n Q := by
  unfold f_X8_reckon at h
  refine h_iload_n dX8_reckon_0 rfl ?_
  by_cases q1 : v0 = (-26 : Int32)
  · rw [if_pos q1] at h
    refine h_tswIn (tgt := 90) 0 dX8_reckon_1 (by rw [q1]; decide) (by decide) rfl (by decide) ?_
    refine h_iload_n dX8_reckon_90 rfl ?_
    refine h_if_eq (tgt := 102) dX8_reckon_91 (by decide) (fun q2 => ?_) (fun q2 => ?_)
    · rw [if_pos q2] at h
      refine h_iconst (0 : Int32) dX8_reckon_102 k_iconst_0 ?_
      cases h
      exact h_iret dX8_reckon_103 rfl E
    · rw [if_neg q2] at h
      refine h_iload_n dX8_reckon_94 rfl ?_
      refine h_if_eq (tgt := 102) dX8_reckon_95 (by decide) (fun q3 => ?_) (fun q3 => ?_)
      · rw [if_pos q3] at h
        refine h_iconst (0 : Int32) dX8_reckon_102 k_iconst_0 ?_
        cases h
        exact h_iret dX8_reckon_103 rfl E
      · rw [if_neg q3] at h
        refine h_iconst (1 : Int32) dX8_reckon_98 k_iconst_1 ?_
        refine h_goto (tgt := 103) dX8_reckon_99 (by decide) ?_
        cases h
        exact h_iret dX8_reckon_103 rfl E
  · rw [if_neg q1] at h
    by_cases q4 : v0 = (-25 : Int32)
    · rw [if_pos q4] at h
      refine h_tswIn (tgt := 79) 1 dX8_reckon_1 (by rw [q4]; decide) (by decide) rfl (by decide) ?_
      refine h_iload_n dX8_reckon_79 rfl ?_
      refine h_iload_n dX8_reckon_80 rfl ?_
      refine h_icmp_ne (tgt := 88) dX8_reckon_81 (by decide) (fun q5 => ?_) (fun q5 => ?_)
      · rw [if_neg q5] at h
        refine h_iconst (0 : Int32) dX8_reckon_88 k_iconst_0 ?_
        cases h
        exact h_iret dX8_reckon_89 rfl E
      · rw [if_pos q5] at h
        refine h_iconst (1 : Int32) dX8_reckon_84 k_iconst_1 ?_
        refine h_goto (tgt := 89) dX8_reckon_85 (by decide) ?_
        cases h
        exact h_iret dX8_reckon_89 rfl E
    · rw [if_neg q4] at h
      by_cases q6 : v0 = (-24 : Int32)
      · rw [if_pos q6] at h
        refine h_tswIn (tgt := 68) 2 dX8_reckon_1 (by rw [q6]; decide) (by decide) rfl (by decide) ?_
        refine h_iload_n dX8_reckon_68 rfl ?_
        refine h_iload_n dX8_reckon_69 rfl ?_
        refine h_icmp_ge (tgt := 77) dX8_reckon_70 (by decide) (fun q7 => ?_) (fun q7 => ?_)
        · rw [if_pos q7] at h
          refine h_iconst (0 : Int32) dX8_reckon_77 k_iconst_0 ?_
          cases h
          exact h_iret dX8_reckon_78 rfl E
        · rw [if_neg q7] at h
          refine h_iconst (1 : Int32) dX8_reckon_73 k_iconst_1 ?_
          refine h_goto (tgt := 78) dX8_reckon_74 (by decide) ?_
          cases h
          exact h_iret dX8_reckon_78 rfl E
      · rw [if_neg q6] at h
        by_cases q8 : v0 = (-23 : Int32)
        · rw [if_pos q8] at h
          refine h_tswIn (tgt := 56) 3 dX8_reckon_1 (by rw [q8]; decide) (by decide) rfl (by decide) ?_
          refine h_iload_n dX8_reckon_56 rfl ?_
          refine h_if_ne (tgt := 64) dX8_reckon_57 (by decide) (fun q9 => ?_) (fun q9 => ?_)
          · rw [if_neg q9] at h
            refine h_iload_n dX8_reckon_64 rfl ?_
            refine h_iload_n dX8_reckon_65 rfl ?_
            obtain ⟨g1, h⟩ := gd_some h
            refine h_div dX8_reckon_66 g1 ?_
            cases h
            exact h_iret dX8_reckon_67 rfl E
          · rw [if_pos q9] at h
            refine h_iconst (0 : Int32) dX8_reckon_60 k_iconst_0 ?_
            refine h_goto (tgt := 67) dX8_reckon_61 (by decide) ?_
            cases h
            exact h_iret dX8_reckon_67 rfl E
        · rw [if_neg q8] at h
          by_cases q10 : v0 = (-22 : Int32)
          · rw [if_pos q10] at h
            refine h_tswIn (tgt := 52) 4 dX8_reckon_1 (by rw [q10]; decide) (by decide) rfl (by decide) ?_
            refine h_iload_n dX8_reckon_52 rfl ?_
            refine h_iload_n dX8_reckon_53 rfl ?_
            refine h_imul dX8_reckon_54 ?_
            cases h
            exact h_iret dX8_reckon_55 rfl E
          · rw [if_neg q10] at h
            by_cases q11 : v0 = (-21 : Int32)
            · rw [if_pos q11] at h
              refine h_tswIn (tgt := 48) 5 dX8_reckon_1 (by rw [q11]; decide) (by decide) rfl (by decide) ?_
              refine h_iload_n dX8_reckon_48 rfl ?_
              refine h_iload_n dX8_reckon_49 rfl ?_
              refine h_isub dX8_reckon_50 ?_
              cases h
              exact h_iret dX8_reckon_51 rfl E
            · rw [if_neg q11] at h
              by_cases q12 : v0 = (-20 : Int32)
              · rw [if_pos q12] at h
                refine h_tswIn (tgt := 44) 6 dX8_reckon_1 (by rw [q12]; decide) (by decide) rfl (by decide) ?_
                refine h_iload_n dX8_reckon_44 rfl ?_
                refine h_iload_n dX8_reckon_45 rfl ?_
                refine h_iadd dX8_reckon_46 ?_
                cases h
                exact h_iret dX8_reckon_47 rfl E
              · rw [if_neg q12] at h
                refine h_tswOut (tgt := 104) dX8_reckon_1 ?_ (by decide) ?_
                · have n0 : v0.toInt ≠ -26 := fun e => q1 (Int32.toInt_inj.mp (e.trans (by decide)))
                  have n1 : v0.toInt ≠ -25 := fun e => q4 (Int32.toInt_inj.mp (e.trans (by decide)))
                  have n2 : v0.toInt ≠ -24 := fun e => q6 (Int32.toInt_inj.mp (e.trans (by decide)))
                  have n3 : v0.toInt ≠ -23 := fun e => q8 (Int32.toInt_inj.mp (e.trans (by decide)))
                  have n4 : v0.toInt ≠ -22 := fun e => q10 (Int32.toInt_inj.mp (e.trans (by decide)))
                  have n5 : v0.toInt ≠ -21 := fun e => q11 (Int32.toInt_inj.mp (e.trans (by decide)))
                  have n6 : v0.toInt ≠ -20 := fun e => q12 (Int32.toInt_inj.mp (e.trans (by decide)))
                  omega
                · refine h_iload_n dX8_reckon_104 rfl ?_
                  refine h_if_ne (tgt := 112) dX8_reckon_105 (by decide) (fun q13 => ?_) (fun q13 => ?_)
                  · rw [if_neg q13] at h
                    refine h_iconst (1 : Int32) dX8_reckon_112 k_iconst_1 ?_
                    refine h_goto (tgt := 117) dX8_reckon_113 (by decide) ?_
                    cases h
                    exact h_iret dX8_reckon_117 rfl E
                  · rw [if_pos q13] at h
                    refine h_iload_n dX8_reckon_108 rfl ?_
                    refine h_if_eq (tgt := 116) dX8_reckon_109 (by decide) (fun q14 => ?_) (fun q14 => ?_)
                    · rw [if_pos q14] at h
                      refine h_iconst (0 : Int32) dX8_reckon_116 k_iconst_0 ?_
                      cases h
                      exact h_iret dX8_reckon_117 rfl E
                    · rw [if_neg q14] at h
                      refine h_iconst (1 : Int32) dX8_reckon_112 k_iconst_1 ?_
                      refine h_goto (tgt := 117) dX8_reckon_113 (by decide) ?_
                      cases h
                      exact h_iret dX8_reckon_117 rfl E
theorem m_X8_reckon {I : Mem} {P : PMem} {O : Nat → Int64} {D : Bool} {n : Nat} {v0 : Int32} {v1 : Int32} {v2 : Int32} {r : (Int32)}  (h : f_X8_reckon I v0 v1 v2 = some r) : MethR yX8_reckon cX8_reckon 3 (some .int) 2 [.inl v0, .inl v1, .inl v2] I P O D n (some (.inl r)) I P O D n := meth_R (Nat.le_refl _) (by decide) rfl (Nat.le_of_ble_eq_true rfl) rfl (fun X Q E => b_X8_reckon X Q  h E)
def f_X8_valueNow_4   : Nat → Mem → Int32 → Int32 → Option (Int32 × Mem)
  | 0, _, _, _ => none
  | fu + 1, I, v1, v2 =>
    if (I 50 0 0 6) ≤ v2 then (some ((I 67 0 0 0), I)) else (gd (inb v2 1200) <|
    bnd (I 58 0 0 v2.toNatClampNeg) fun x1 =>
    if x1 ≤ (-20 : Int32) then (if x1 = (-28 : Int32) then (gd (inb (v1 - (1 : Int32)) 64) <|
    if (I 67 0 0 ((v1 - (1 : Int32)).toNatClampNeg)) = 0 then (bnd (upd4 I 67 0 0 ((v1 - (1 : Int32)).toNatClampNeg) (1 : Int32)) fun I2' =>
    (f_X8_valueNow_4 fu) I2' v1 (v2 + (1 : Int32))) else (bnd (upd4 I 67 0 0 ((v1 - (1 : Int32)).toNatClampNeg) (0 : Int32)) fun I3' =>
    (f_X8_valueNow_4 fu) I3' v1 (v2 + (1 : Int32)))) else (gd (inb ((v1 + (-1 : Int32)) - (1 : Int32)) 64) <|
    gd (inb (v1 + (-1 : Int32)) 64) <|
    (f_X8_reckon I x1 (I 67 0 0 (((v1 + (-1 : Int32)) - (1 : Int32)).toNatClampNeg)) (I 67 0 0 ((v1 + (-1 : Int32)).toNatClampNeg))).bind fun y1 =>
    bnd (upd4 I 67 0 0 (((v1 + (-1 : Int32)) - (1 : Int32)).toNatClampNeg) y1) fun I1' =>
    (f_X8_valueNow_4 fu) I1' (v1 + (-1 : Int32)) (v2 + (1 : Int32)))) else (if x1 < 0 then (gd (inb ((-1 : Int32) - x1) 5) <|
    gd (inb v1 64) <|
    bnd (upd4 I 67 0 0 v1.toNatClampNeg (I 66 0 0 (((-1 : Int32) - x1).toNatClampNeg))) fun I4' =>
    (f_X8_valueNow_4 fu) I4' (v1 + (1 : Int32)) (v2 + (1 : Int32))) else (gd (inb v1 64) <|
    bnd (upd4 I 67 0 0 v1.toNatClampNeg x1) fun I5' =>
    (f_X8_valueNow_4 fu) I5' (v1 + (1 : Int32)) (v2 + (1 : Int32)))))
theorem b_X8_valueNow_4 (X : CX) (Q : State → Prop) {P : PMem} {O : Nat → Int64} {D : Bool} {n : Nat} {r : (Int32 × Mem)}  : ∀ (fu : Nat) {I : Mem} {v1 : Int32} {v2 : Int32}, f_X8_valueNow_4 fu I v1 v2 = some r → EndR X cX8_valueNow RX8 4 (some .int) 3 n (some (.inl r.1)) r.2 P O D Q → Here X cX8_valueNow RX8 4 (some .int) 3 n 4 [some (.inr (.inr (8, 0, 0))), some (.inl v1), some (.inl v2), none] [] I P O D n Q := by
  intro fu
  induction fu with
  | zero => intro I v1 v2 h E; cases h
  | succ fu ih =>
  intro I v1 v2 h E
  have H4 : ∀ (I : Mem) (v1 : Int32) (v2 : Int32), f_X8_valueNow_4 fu I v1 v2 = some r → Here X cX8_valueNow RX8 4 (some .int) 3 n 4 [some (.inr (.inr (8, 0, 0))), some (.inl v1), some (.inl v2), none] [] I P O D n Q := fun _ _ _ b => ih b E
  simp only [f_X8_valueNow_4] at h
  refine h_iload_n dX8_valueNow_4 rfl ?_
  refine h_aload_n dX8_valueNow_5 rfl ?_
  refine g_X8_34  dX8_valueNow_6 ?_
  refine h_bipush (6 : Int32) dX8_valueNow_9 k_bipush_6 ?_
  refine al_50  6 cl_6 dX8_valueNow_11 rfl ?_
  refine h_icmp_ge (tgt := 124) dX8_valueNow_12 (by decide) (fun q1 => ?_) (fun q1 => ?_)
  · rw [if_pos q1] at h
    refine h_aload_n dX8_valueNow_124 rfl ?_
    refine g_X8_88  dX8_valueNow_125 ?_
    refine h_iconst (0 : Int32) dX8_valueNow_128 k_iconst_0 ?_
    refine al_67  0 cl_0 dX8_valueNow_129 rfl ?_
    cases h
    exact h_iret dX8_valueNow_130 rfl E
  · rw [if_neg q1] at h
    refine h_aload_n dX8_valueNow_15 rfl ?_
    refine g_X8_57  dX8_valueNow_16 ?_
    refine h_iload_n dX8_valueNow_19 rfl ?_
    obtain ⟨g1, h⟩ := gd_some h
    refine al_58  v2.toNatClampNeg rfl dX8_valueNow_20 g1 ?_
    obtain ⟨x1, e1, h⟩ := bnd_some h
    refine h_nmv e1 ?_
    refine h_istore_n dX8_valueNow_21 (by decide) rfl ?_
    refine h_iload_n dX8_valueNow_22 rfl ?_
    refine h_bipush (-20 : Int32) dX8_valueNow_23 k_bipush_m20 ?_
    refine h_icmp_le (tgt := 56) dX8_valueNow_25 (by decide) (fun q2 => ?_) (fun q2 => ?_)
    · rw [if_pos q2] at h
      refine h_iload_n dX8_valueNow_56 rfl ?_
      refine h_bipush (-28 : Int32) dX8_valueNow_57 k_bipush_m28 ?_
      refine h_icmp_ne (tgt := 89) dX8_valueNow_59 (by decide) (fun q3 => ?_) (fun q3 => ?_)
      · rw [if_neg q3] at h
        refine h_iinc (-1 : Int32) dX8_valueNow_89 rfl k_iinc_m1 (by decide) rfl ?_
        refine h_aload_n dX8_valueNow_92 rfl ?_
        refine g_X8_88  dX8_valueNow_93 ?_
        refine h_iload_n dX8_valueNow_96 rfl ?_
        refine h_iconst (1 : Int32) dX8_valueNow_97 k_iconst_1 ?_
        refine h_isub dX8_valueNow_98 ?_
        refine h_iload_n dX8_valueNow_99 rfl ?_
        refine h_aload_n dX8_valueNow_100 rfl ?_
        refine g_X8_88  dX8_valueNow_101 ?_
        refine h_iload_n dX8_valueNow_104 rfl ?_
        refine h_iconst (1 : Int32) dX8_valueNow_105 k_iconst_1 ?_
        refine h_isub dX8_valueNow_106 ?_
        obtain ⟨g2, h⟩ := gd_some h
        refine al_67  (((v1 + (-1 : Int32)) - (1 : Int32)).toNatClampNeg) rfl dX8_valueNow_107 g2 ?_
        refine h_aload_n dX8_valueNow_108 rfl ?_
        refine g_X8_88  dX8_valueNow_109 ?_
        refine h_iload_n dX8_valueNow_112 rfl ?_
        obtain ⟨g3, h⟩ := gd_some h
        refine al_67  ((v1 + (-1 : Int32)).toNatClampNeg) rfl dX8_valueNow_113 g3 ?_
        obtain ⟨y1, hh1, h⟩ := obd_some h
        refine h_cSi [.inl x1, .inl (I 67 0 0 (((v1 + (-1 : Int32)) - (1 : Int32)).toNatClampNeg)), .inl (I 67 0 0 ((v1 + (-1 : Int32)).toNatClampNeg))] (m_X8_reckon  hh1) cs_X8_336 dX8_valueNow_114 rfl (by decide) rfl (Or.inr rfl) rfl ?_
        obtain ⟨I1', e2, h⟩ := bnd_some h
        refine as_67  (((v1 + (-1 : Int32)) - (1 : Int32)).toNatClampNeg) rfl dX8_valueNow_117 g2 ?_
        refine h_nmI e2 ?_
        refine h_iinc (1 : Int32) dX8_valueNow_118 rfl k_iinc_1 (by decide) rfl ?_
        refine h_goto (tgt := 4) dX8_valueNow_121 (by decide) ?_
        exact h_mask [true, true, true, false] (H4 _ _ _ h)
      · rw [if_pos q3] at h
        refine h_aload_n dX8_valueNow_62 rfl ?_
        refine g_X8_88  dX8_valueNow_63 ?_
        refine h_iload_n dX8_valueNow_66 rfl ?_
        refine h_iconst (1 : Int32) dX8_valueNow_67 k_iconst_1 ?_
        refine h_isub dX8_valueNow_68 ?_
        refine h_aload_n dX8_valueNow_69 rfl ?_
        refine g_X8_88  dX8_valueNow_70 ?_
        refine h_iload_n dX8_valueNow_73 rfl ?_
        refine h_iconst (1 : Int32) dX8_valueNow_74 k_iconst_1 ?_
        refine h_isub dX8_valueNow_75 ?_
        obtain ⟨g4, h⟩ := gd_some h
        refine al_67  ((v1 - (1 : Int32)).toNatClampNeg) rfl dX8_valueNow_76 g4 ?_
        refine h_if_eq (tgt := 84) dX8_valueNow_77 (by decide) (fun q4 => ?_) (fun q4 => ?_)
        · rw [if_pos q4] at h
          refine h_iconst (1 : Int32) dX8_valueNow_84 k_iconst_1 ?_
          obtain ⟨I2', e3, h⟩ := bnd_some h
          refine as_67  ((v1 - (1 : Int32)).toNatClampNeg) rfl dX8_valueNow_85 g4 ?_
          refine h_nmI e3 ?_
          refine h_goto (tgt := 118) dX8_valueNow_86 (by decide) ?_
          refine h_iinc (1 : Int32) dX8_valueNow_118 rfl k_iinc_1 (by decide) rfl ?_
          refine h_goto (tgt := 4) dX8_valueNow_121 (by decide) ?_
          exact h_mask [true, true, true, false] (H4 _ _ _ h)
        · rw [if_neg q4] at h
          refine h_iconst (0 : Int32) dX8_valueNow_80 k_iconst_0 ?_
          refine h_goto (tgt := 85) dX8_valueNow_81 (by decide) ?_
          obtain ⟨I3', e4, h⟩ := bnd_some h
          refine as_67  ((v1 - (1 : Int32)).toNatClampNeg) rfl dX8_valueNow_85 g4 ?_
          refine h_nmI e4 ?_
          refine h_goto (tgt := 118) dX8_valueNow_86 (by decide) ?_
          refine h_iinc (1 : Int32) dX8_valueNow_118 rfl k_iinc_1 (by decide) rfl ?_
          refine h_goto (tgt := 4) dX8_valueNow_121 (by decide) ?_
          exact h_mask [true, true, true, false] (H4 _ _ _ h)
    · rw [if_neg q2] at h
      refine h_aload_n dX8_valueNow_28 rfl ?_
      refine g_X8_88  dX8_valueNow_29 ?_
      refine h_iload_n dX8_valueNow_32 rfl ?_
      refine h_iload_n dX8_valueNow_33 rfl ?_
      refine h_if_lt (tgt := 41) dX8_valueNow_34 (by decide) (fun q5 => ?_) (fun q5 => ?_)
      · rw [if_pos q5] at h
        refine h_aload_n dX8_valueNow_41 rfl ?_
        refine g_X8_85  dX8_valueNow_42 ?_
        refine h_iconst (-1 : Int32) dX8_valueNow_45 k_iconst_m1 ?_
        refine h_iload_n dX8_valueNow_46 rfl ?_
        refine h_isub dX8_valueNow_47 ?_
        obtain ⟨g5, h⟩ := gd_some h
        refine al_66  (((-1 : Int32) - x1).toNatClampNeg) rfl dX8_valueNow_48 g5 ?_
        obtain ⟨g6, h⟩ := gd_some h
        obtain ⟨I4', e5, h⟩ := bnd_some h
        refine as_67  v1.toNatClampNeg rfl dX8_valueNow_49 g6 ?_
        refine h_nmI e5 ?_
        refine h_iinc (1 : Int32) dX8_valueNow_50 rfl k_iinc_1 (by decide) rfl ?_
        refine h_goto (tgt := 118) dX8_valueNow_53 (by decide) ?_
        refine h_iinc (1 : Int32) dX8_valueNow_118 rfl k_iinc_1 (by decide) rfl ?_
        refine h_goto (tgt := 4) dX8_valueNow_121 (by decide) ?_
        exact h_mask [true, true, true, false] (H4 _ _ _ h)
      · rw [if_neg q5] at h
        refine h_iload_n dX8_valueNow_37 rfl ?_
        refine h_goto (tgt := 49) dX8_valueNow_38 (by decide) ?_
        obtain ⟨g7, h⟩ := gd_some h
        obtain ⟨I5', e6, h⟩ := bnd_some h
        refine as_67  v1.toNatClampNeg rfl dX8_valueNow_49 g7 ?_
        refine h_nmI e6 ?_
        refine h_iinc (1 : Int32) dX8_valueNow_50 rfl k_iinc_1 (by decide) rfl ?_
        refine h_goto (tgt := 118) dX8_valueNow_53 (by decide) ?_
        refine h_iinc (1 : Int32) dX8_valueNow_118 rfl k_iinc_1 (by decide) rfl ?_
        refine h_goto (tgt := 4) dX8_valueNow_121 (by decide) ?_
        exact h_mask [true, true, true, false] (H4 _ _ _ h)
def f_X8_valueNow   (I : Mem) : Option (Int32 × Mem) :=
  f_X8_valueNow_4 FU I (0 : Int32) (0 : Int32)
theorem b_X8_valueNow (X : CX) (Q : State → Prop) {I : Mem} {P : PMem} {O : Nat → Int64} {D : Bool} {n : Nat} {r : (Int32 × Mem)}  (h : f_X8_valueNow I = some r) (E : EndR X cX8_valueNow RX8 4 (some .int) 3 n (some (.inl r.1)) r.2 P O D Q) : Here X cX8_valueNow RX8 4 (some .int) 3 n 0 [some (.inr (.inr (8, 0, 0))), none, none, none] [] I P O D n Q := by
  unfold f_X8_valueNow at h
  refine h_iconst (0 : Int32) dX8_valueNow_0 k_iconst_0 ?_
  refine h_istore_n dX8_valueNow_1 (by decide) rfl ?_
  refine h_iconst (0 : Int32) dX8_valueNow_2 k_iconst_0 ?_
  refine h_istore_n dX8_valueNow_3 (by decide) rfl ?_
  exact (b_X8_valueNow_4 X Q FU  h E)
theorem m_X8_valueNow {I : Mem} {P : PMem} {O : Nat → Int64} {D : Bool} {n : Nat}  {r : (Int32 × Mem)}  (h : f_X8_valueNow I = some r) : MethR yX8_valueNow cX8_valueNow 4 (some .int) 3 [.inr (.inr (8, 0, 0))] I P O D n (some (.inl r.1)) r.2 P O D n := meth_R (Nat.le_refl _) (by decide) rfl (Nat.le_of_ble_eq_true rfl) rfl (fun X Q E => b_X8_valueNow X Q  h E)
def f_X8_set_22   : Nat → Mem → Int32 → Option (Mem)
  | 0, _, _ => none
  | fu + 1, I, v1 =>
    if (I 50 0 0 4) ≤ v1 then (some I) else (gd (inb v1 10) <|
    if (I 52 0 0 v1.toNatClampNeg) = (1 : Int32) then (bnd (upd4 I 8 0 0 41 ((I 8 0 0 41) ||| (jshl (1 : Int32) v1))) fun I2' =>
    (f_X8_set_22 fu) I2' (v1 + (1 : Int32))) else (bnd (upd4 I 8 0 0 41 ((I 8 0 0 41) ||| (0 : Int32))) fun I1' =>
    (f_X8_set_22 fu) I1' (v1 + (1 : Int32))))
theorem b_X8_set_22 (X : CX) (Q : State → Prop) {P : PMem} {O : Nat → Int64} {D : Bool} {n : Nat} {r : (Mem)}  : ∀ (fu : Nat) {I : Mem} {v1 : Int32}, f_X8_set_22 fu I v1 = some r → EndR X cX8_set RX8 2 (none) 2 n none r P O D Q → Here X cX8_set RX8 2 (none) 2 n 22 [some (.inr (.inr (8, 0, 0))), some (.inl v1)] [] I P O D n Q := by
  intro fu
  induction fu with
  | zero => intro I v1 h E; cases h
  | succ fu ih =>
  intro I v1 h E
  have H22 : ∀ (I : Mem) (v1 : Int32), f_X8_set_22 fu I v1 = some r → Here X cX8_set RX8 2 (none) 2 n 22 [some (.inr (.inr (8, 0, 0))), some (.inl v1)] [] I P O D n Q := fun _ _ b => ih b E
  simp only [f_X8_set_22] at h
  refine h_iload_n dX8_set_22 rfl ?_
  refine h_aload_n dX8_set_23 rfl ?_
  refine g_X8_34  dX8_set_24 ?_
  refine h_iconst (4 : Int32) dX8_set_27 k_iconst_4 ?_
  refine al_50  4 cl_4 dX8_set_28 rfl ?_
  refine h_icmp_ge (tgt := 64) dX8_set_29 (by decide) (fun q1 => ?_) (fun q1 => ?_)
  · rw [if_pos q1] at h
    cases h
    exact h_vret dX8_set_64 rfl E
  · rw [if_neg q1] at h
    refine h_aload_n dX8_set_32 rfl ?_
    refine h_dup dX8_set_33 (fun _ => rfl) ?_
    refine g_X8_343  dX8_set_34 ?_
    refine h_aload_n dX8_set_37 rfl ?_
    refine g_X8_41  dX8_set_38 ?_
    refine h_iload_n dX8_set_41 rfl ?_
    obtain ⟨g1, h⟩ := gd_some h
    refine al_52  v1.toNatClampNeg rfl dX8_set_42 g1 ?_
    refine h_iconst (1 : Int32) dX8_set_43 k_iconst_1 ?_
    refine h_icmp_ne (tgt := 53) dX8_set_44 (by decide) (fun q2 => ?_) (fun q2 => ?_)
    · rw [if_neg q2] at h
      refine h_iconst (0 : Int32) dX8_set_53 k_iconst_0 ?_
      refine h_ior dX8_set_54 ?_
      obtain ⟨I1', e1, h⟩ := bnd_some h
      refine p_X8_343  dX8_set_55 ?_
      refine h_nmI e1 ?_
      refine h_iinc (1 : Int32) dX8_set_58 rfl k_iinc_1 (by decide) rfl ?_
      refine h_goto (tgt := 22) dX8_set_61 (by decide) ?_
      exact (H22 _ _ h)
    · rw [if_pos q2] at h
      refine h_iconst (1 : Int32) dX8_set_47 k_iconst_1 ?_
      refine h_iload_n dX8_set_48 rfl ?_
      refine h_shl dX8_set_49 ?_
      refine h_goto (tgt := 54) dX8_set_50 (by decide) ?_
      refine h_ior dX8_set_54 ?_
      obtain ⟨I2', e2, h⟩ := bnd_some h
      refine p_X8_343  dX8_set_55 ?_
      refine h_nmI e2 ?_
      refine h_iinc (1 : Int32) dX8_set_58 rfl k_iinc_1 (by decide) rfl ?_
      refine h_goto (tgt := 22) dX8_set_61 (by decide) ?_
      exact (H22 _ _ h)
def f_X8_set   (I : Mem) : Option (Mem) :=
  bnd (upd4 I 8 0 0 40 (-1 : Int32)) fun I1' =>
  bnd (upd4 I1' 8 0 0 42 (0 : Int32)) fun I2' =>
  bnd (upd4 I2' 8 0 0 43 (-1 : Int32)) fun I3' =>
  bnd (upd4 I3' 8 0 0 41 (0 : Int32)) fun I4' =>
  f_X8_set_22 FU I4' (0 : Int32)
theorem b_X8_set (X : CX) (Q : State → Prop) {I : Mem} {P : PMem} {O : Nat → Int64} {D : Bool} {n : Nat} {r : (Mem)}  (h : f_X8_set I = some r) (E : EndR X cX8_set RX8 2 (none) 2 n none r P O D Q) : Here X cX8_set RX8 2 (none) 2 n 0 [some (.inr (.inr (8, 0, 0))), none] [] I P O D n Q := by
  unfold f_X8_set at h
  refine h_aload_n dX8_set_0 rfl ?_
  refine h_iconst (-1 : Int32) dX8_set_1 k_iconst_m1 ?_
  obtain ⟨I1', e1, h⟩ := bnd_some h
  refine p_X8_100  dX8_set_2 ?_
  refine h_nmI e1 ?_
  refine h_aload_n dX8_set_5 rfl ?_
  refine h_iconst (0 : Int32) dX8_set_6 k_iconst_0 ?_
  obtain ⟨I2', e2, h⟩ := bnd_some h
  refine p_X8_340  dX8_set_7 ?_
  refine h_nmI e2 ?_
  refine h_aload_n dX8_set_10 rfl ?_
  refine h_iconst (-1 : Int32) dX8_set_11 k_iconst_m1 ?_
  obtain ⟨I3', e3, h⟩ := bnd_some h
  refine p_X8_103  dX8_set_12 ?_
  refine h_nmI e3 ?_
  refine h_aload_n dX8_set_15 rfl ?_
  refine h_iconst (0 : Int32) dX8_set_16 k_iconst_0 ?_
  obtain ⟨I4', e4, h⟩ := bnd_some h
  refine p_X8_343  dX8_set_17 ?_
  refine h_nmI e4 ?_
  refine h_iconst (0 : Int32) dX8_set_20 k_iconst_0 ?_
  refine h_istore_n dX8_set_21 (by decide) rfl ?_
  exact (b_X8_set_22 X Q FU  h E)
theorem m_X8_set {I : Mem} {P : PMem} {O : Nat → Int64} {D : Bool} {n : Nat}  {r : (Mem)}  (h : f_X8_set I = some r) : MethR yX8_set cX8_set 2 (none) 2 [.inr (.inr (8, 0, 0))] I P O D n none r P O D n := meth_R (Nat.le_refl _) (by decide) rfl (Nat.le_of_ble_eq_true rfl) rfl (fun X Q E => b_X8_set X Q  h E)
def f_X8_tellStops_95 (k21 : Mem → Int32 → Int32 → Int32 → Option (Mem))  (I : Mem) (v1 : Int32) (v2 : Int32) (v3 : Int32) (v4 : Int32) : Option (Mem) :=
  gd (inb (((7 : Int32) * v1) + v3) 35) <|
  bnd (upd4 I 68 0 0 ((((7 : Int32) * v1) + v3).toNatClampNeg) v4) fun I1' =>
  bnd (upd4 I1' 69 0 0 ((((7 : Int32) * v1) + v3).toNatClampNeg) v2) fun I2' =>
  k21 I2' v1 v2 (v3 + (1 : Int32))
theorem b_X8_tellStops_95 (X : CX) (Q : State → Prop) {I : Mem} {P : PMem} {O : Nat → Int64} {D : Bool} {n : Nat} {k21 : Mem → Int32 → Int32 → Int32 → Option (Mem)} {v1 : Int32} {v2 : Int32} {v3 : Int32} {v4 : Int32} {r : (Mem)}  (H21 : ∀ (I : Mem) (v1 : Int32) (v2 : Int32) (v3 : Int32), k21 I v1 v2 v3 = some r → Here X cX8_tellStops RX8 5 (none) 3 n 21 [some (.inr (.inr (8, 0, 0))), some (.inl v1), some (.inl v2), some (.inl v3), none] [] I P O D n Q) (h : f_X8_tellStops_95 k21 I v1 v2 v3 v4 = some r) (E : EndR X cX8_tellStops RX8 5 (none) 3 n none r P O D Q) : Here X cX8_tellStops RX8 5 (none) 3 n 95 [some (.inr (.inr (8, 0, 0))), some (.inl v1), some (.inl v2), some (.inl v3), some (.inl v4)] [] I P O D n Q := by
  unfold f_X8_tellStops_95 at h
  refine h_aload_n dX8_tellStops_95 rfl ?_
  refine g_X8_91  dX8_tellStops_96 ?_
  refine h_bipush (7 : Int32) dX8_tellStops_99 k_bipush_7 ?_
  refine h_iload_n dX8_tellStops_101 rfl ?_
  refine h_imul dX8_tellStops_102 ?_
  refine h_iload_n dX8_tellStops_103 rfl ?_
  refine h_iadd dX8_tellStops_104 ?_
  refine h_iload dX8_tellStops_105 rfl ?_
  obtain ⟨g1, h⟩ := gd_some h
  obtain ⟨I1', e1, h⟩ := bnd_some h
  refine as_68  ((((7 : Int32) * v1) + v3).toNatClampNeg) rfl dX8_tellStops_107 g1 ?_
  refine h_nmI e1 ?_
  refine h_aload_n dX8_tellStops_108 rfl ?_
  refine g_X8_94  dX8_tellStops_109 ?_
  refine h_bipush (7 : Int32) dX8_tellStops_112 k_bipush_7 ?_
  refine h_iload_n dX8_tellStops_114 rfl ?_
  refine h_imul dX8_tellStops_115 ?_
  refine h_iload_n dX8_tellStops_116 rfl ?_
  refine h_iadd dX8_tellStops_117 ?_
  refine h_iload_n dX8_tellStops_118 rfl ?_
  obtain ⟨I2', e2, h⟩ := bnd_some h
  refine as_69  ((((7 : Int32) * v1) + v3).toNatClampNeg) rfl dX8_tellStops_119 g1 ?_
  refine h_nmI e2 ?_
  refine h_iinc (1 : Int32) dX8_tellStops_120 rfl k_iinc_1 (by decide) rfl ?_
  refine h_goto (tgt := 21) dX8_tellStops_123 (by decide) ?_
  exact h_mask [true, true, true, true, false] (H21 _ _ _ _ h)
def f_X8_tellStops_61 (k21 : Mem → Int32 → Int32 → Int32 → Option (Mem))  (I : Mem) (v1 : Int32) (v2 : Int32) (v3 : Int32) (s0 : Int32) (s1 : Int32) : Option (Mem) :=
  gd (inb (s1 + s0) 70) <|
  bnd (I 56 0 0 ((s1 + s0).toNatClampNeg)) fun x1 =>
  if v3 ≤ 0 then (f_X8_tellStops_95 k21 I v1 v2 v3 x1) else (gd (inb ((((7 : Int32) * v1) + v3) - (1 : Int32)) 35) <|
  (f_X8_couple I (I 68 0 0 (((((7 : Int32) * v1) + v3) - (1 : Int32)).toNatClampNeg)) x1).bind fun y1 =>
  gd (inb y1 162) <|
  bnd (v2 + (I 51 0 0 y1.toNatClampNeg)) fun x2 =>
  f_X8_tellStops_95 k21 I v1 x2 v3 x1)
theorem b_X8_tellStops_61 (X : CX) (Q : State → Prop) {I : Mem} {P : PMem} {O : Nat → Int64} {D : Bool} {n : Nat} {k21 : Mem → Int32 → Int32 → Int32 → Option (Mem)} {v1 : Int32} {v2 : Int32} {v3 : Int32} {s0 : Int32} {s1 : Int32} {r : (Mem)}  (H21 : ∀ (I : Mem) (v1 : Int32) (v2 : Int32) (v3 : Int32), k21 I v1 v2 v3 = some r → Here X cX8_tellStops RX8 5 (none) 3 n 21 [some (.inr (.inr (8, 0, 0))), some (.inl v1), some (.inl v2), some (.inl v3), none] [] I P O D n Q) (h : f_X8_tellStops_61 k21 I v1 v2 v3 s0 s1 = some r) (E : EndR X cX8_tellStops RX8 5 (none) 3 n none r P O D Q) : Here X cX8_tellStops RX8 5 (none) 3 n 61 [some (.inr (.inr (8, 0, 0))), some (.inl v1), some (.inl v2), some (.inl v3), none] [.inl s0, .inl s1, .inr (.inr (56, 0, 0))] I P O D n Q := by
  unfold f_X8_tellStops_61 at h
  refine h_iadd dX8_tellStops_61 ?_
  obtain ⟨g1, h⟩ := gd_some h
  refine al_56  ((s1 + s0).toNatClampNeg) rfl dX8_tellStops_62 g1 ?_
  obtain ⟨x1, e1, h⟩ := bnd_some h
  refine h_nmv e1 ?_
  refine h_istore dX8_tellStops_63 (by decide) rfl ?_
  refine h_iload_n dX8_tellStops_65 rfl ?_
  refine h_if_le (tgt := 95) dX8_tellStops_66 (by decide) (fun q1 => ?_) (fun q1 => ?_)
  · rw [if_pos q1] at h
    exact (b_X8_tellStops_95 X Q H21  h E)
  · rw [if_neg q1] at h
    refine h_iload_n dX8_tellStops_69 rfl ?_
    refine h_aload_n dX8_tellStops_70 rfl ?_
    refine g_X8_38  dX8_tellStops_71 ?_
    refine h_aload_n dX8_tellStops_74 rfl ?_
    refine g_X8_91  dX8_tellStops_75 ?_
    refine h_bipush (7 : Int32) dX8_tellStops_78 k_bipush_7 ?_
    refine h_iload_n dX8_tellStops_80 rfl ?_
    refine h_imul dX8_tellStops_81 ?_
    refine h_iload_n dX8_tellStops_82 rfl ?_
    refine h_iadd dX8_tellStops_83 ?_
    refine h_iconst (1 : Int32) dX8_tellStops_84 k_iconst_1 ?_
    refine h_isub dX8_tellStops_85 ?_
    obtain ⟨g2, h⟩ := gd_some h
    refine al_68  (((((7 : Int32) * v1) + v3) - (1 : Int32)).toNatClampNeg) rfl dX8_tellStops_86 g2 ?_
    refine h_iload dX8_tellStops_87 rfl ?_
    obtain ⟨y1, hh1, h⟩ := obd_some h
    refine h_cSi [.inl (I 68 0 0 (((((7 : Int32) * v1) + v3) - (1 : Int32)).toNatClampNeg)), .inl x1] (m_X8_couple  hh1) cs_X8_276 dX8_tellStops_89 rfl (by decide) rfl (Or.inr rfl) rfl ?_
    obtain ⟨g3, h⟩ := gd_some h
    refine al_51  y1.toNatClampNeg rfl dX8_tellStops_92 g3 ?_
    refine h_iadd dX8_tellStops_93 ?_
    obtain ⟨x2, e2, h⟩ := bnd_some h
    refine h_nmv e2 ?_
    refine h_istore_n dX8_tellStops_94 (by decide) rfl ?_
    exact (b_X8_tellStops_95 X Q H21  h E)
def f_X8_tellStops_21 (k2 : Mem → Int32 → Option (Mem))  : Nat → Mem → Int32 → Int32 → Int32 → Option (Mem)
  | 0, _, _, _, _ => none
  | fu + 1, I, v1, v2, v3 =>
    gd (inb v1 10) <|
    if (I 55 0 0 v1.toNatClampNeg) ≤ v3 then (k2 I (v1 + (1 : Int32))) else (if v1 = (I 8 0 0 40) then (f_X8_tellStops_61 (f_X8_tellStops_21 k2 fu) I v1 v2 v3 (((I 55 0 0 v1.toNatClampNeg) - (1 : Int32)) - v3) ((7 : Int32) * v1)) else (f_X8_tellStops_61 (f_X8_tellStops_21 k2 fu) I v1 v2 v3 v3 ((7 : Int32) * v1)))
theorem b_X8_tellStops_21 (X : CX) (Q : State → Prop) {P : PMem} {O : Nat → Int64} {D : Bool} {n : Nat} {k2 : Mem → Int32 → Option (Mem)} {r : (Mem)}  (H2 : ∀ (I : Mem) (v1 : Int32), k2 I v1 = some r → Here X cX8_tellStops RX8 5 (none) 3 n 2 [some (.inr (.inr (8, 0, 0))), some (.inl v1), none, none, none] [] I P O D n Q) : ∀ (fu : Nat) {I : Mem} {v1 : Int32} {v2 : Int32} {v3 : Int32}, f_X8_tellStops_21 k2 fu I v1 v2 v3 = some r → EndR X cX8_tellStops RX8 5 (none) 3 n none r P O D Q → Here X cX8_tellStops RX8 5 (none) 3 n 21 [some (.inr (.inr (8, 0, 0))), some (.inl v1), some (.inl v2), some (.inl v3), none] [] I P O D n Q := by
  intro fu
  induction fu with
  | zero => intro I v1 v2 v3 h E; cases h
  | succ fu ih =>
  intro I v1 v2 v3 h E
  have H21 : ∀ (I : Mem) (v1 : Int32) (v2 : Int32) (v3 : Int32), f_X8_tellStops_21 k2 fu I v1 v2 v3 = some r → Here X cX8_tellStops RX8 5 (none) 3 n 21 [some (.inr (.inr (8, 0, 0))), some (.inl v1), some (.inl v2), some (.inl v3), none] [] I P O D n Q := fun _ _ _ _ b => ih b E
  simp only [f_X8_tellStops_21] at h
  refine h_iload_n dX8_tellStops_21 rfl ?_
  refine h_aload_n dX8_tellStops_22 rfl ?_
  refine g_X8_49  dX8_tellStops_23 ?_
  refine h_iload_n dX8_tellStops_26 rfl ?_
  obtain ⟨g1, h⟩ := gd_some h
  refine al_55  v1.toNatClampNeg rfl dX8_tellStops_27 g1 ?_
  refine h_icmp_ge (tgt := 126) dX8_tellStops_28 (by decide) (fun q1 => ?_) (fun q1 => ?_)
  · rw [if_pos q1] at h
    refine h_iinc (1 : Int32) dX8_tellStops_126 rfl k_iinc_1 (by decide) rfl ?_
    refine h_goto (tgt := 2) dX8_tellStops_129 (by decide) ?_
    exact h_mask [true, true, false, false, false] (H2 _ _ h)
  · rw [if_neg q1] at h
    refine h_aload_n dX8_tellStops_31 rfl ?_
    refine g_X8_52  dX8_tellStops_32 ?_
    refine h_bipush (7 : Int32) dX8_tellStops_35 k_bipush_7 ?_
    refine h_iload_n dX8_tellStops_37 rfl ?_
    refine h_imul dX8_tellStops_38 ?_
    refine h_iload_n dX8_tellStops_39 rfl ?_
    refine h_aload_n dX8_tellStops_40 rfl ?_
    refine g_X8_100  dX8_tellStops_41 ?_
    refine h_icmp_ne (tgt := 60) dX8_tellStops_44 (by decide) (fun q2 => ?_) (fun q2 => ?_)
    · rw [if_neg q2] at h
      refine h_iload_n dX8_tellStops_60 rfl ?_
      exact (b_X8_tellStops_61 X Q H21  h E)
    · rw [if_pos q2] at h
      refine h_aload_n dX8_tellStops_47 rfl ?_
      refine g_X8_49  dX8_tellStops_48 ?_
      refine h_iload_n dX8_tellStops_51 rfl ?_
      refine al_55  v1.toNatClampNeg rfl dX8_tellStops_52 g1 ?_
      refine h_iconst (1 : Int32) dX8_tellStops_53 k_iconst_1 ?_
      refine h_isub dX8_tellStops_54 ?_
      refine h_iload_n dX8_tellStops_55 rfl ?_
      refine h_isub dX8_tellStops_56 ?_
      refine h_goto (tgt := 61) dX8_tellStops_57 (by decide) ?_
      exact (b_X8_tellStops_61 X Q H21  h E)
def f_X8_tellStops_2   : Nat → Mem → Int32 → Option (Mem)
  | 0, _, _ => none
  | fu + 1, I, v1 =>
    if (I 50 0 0 4) ≤ v1 then (some I) else (gd (inb v1 10) <|
    bnd (I 53 0 0 v1.toNatClampNeg) fun x1 =>
    f_X8_tellStops_21 (f_X8_tellStops_2 fu) FU I v1 x1 (0 : Int32))
theorem b_X8_tellStops_2 (X : CX) (Q : State → Prop) {P : PMem} {O : Nat → Int64} {D : Bool} {n : Nat} {r : (Mem)}  : ∀ (fu : Nat) {I : Mem} {v1 : Int32}, f_X8_tellStops_2 fu I v1 = some r → EndR X cX8_tellStops RX8 5 (none) 3 n none r P O D Q → Here X cX8_tellStops RX8 5 (none) 3 n 2 [some (.inr (.inr (8, 0, 0))), some (.inl v1), none, none, none] [] I P O D n Q := by
  intro fu
  induction fu with
  | zero => intro I v1 h E; cases h
  | succ fu ih =>
  intro I v1 h E
  have H2 : ∀ (I : Mem) (v1 : Int32), f_X8_tellStops_2 fu I v1 = some r → Here X cX8_tellStops RX8 5 (none) 3 n 2 [some (.inr (.inr (8, 0, 0))), some (.inl v1), none, none, none] [] I P O D n Q := fun _ _ b => ih b E
  simp only [f_X8_tellStops_2] at h
  refine h_iload_n dX8_tellStops_2 rfl ?_
  refine h_aload_n dX8_tellStops_3 rfl ?_
  refine g_X8_34  dX8_tellStops_4 ?_
  refine h_iconst (4 : Int32) dX8_tellStops_7 k_iconst_4 ?_
  refine al_50  4 cl_4 dX8_tellStops_8 rfl ?_
  refine h_icmp_ge (tgt := 132) dX8_tellStops_9 (by decide) (fun q1 => ?_) (fun q1 => ?_)
  · rw [if_pos q1] at h
    cases h
    exact h_vret dX8_tellStops_132 rfl E
  · rw [if_neg q1] at h
    refine h_aload_n dX8_tellStops_12 rfl ?_
    refine g_X8_44  dX8_tellStops_13 ?_
    refine h_iload_n dX8_tellStops_16 rfl ?_
    obtain ⟨g1, h⟩ := gd_some h
    refine al_53  v1.toNatClampNeg rfl dX8_tellStops_17 g1 ?_
    obtain ⟨x1, e1, h⟩ := bnd_some h
    refine h_nmv e1 ?_
    refine h_istore_n dX8_tellStops_18 (by decide) rfl ?_
    refine h_iconst (0 : Int32) dX8_tellStops_19 k_iconst_0 ?_
    refine h_istore_n dX8_tellStops_20 (by decide) rfl ?_
    exact (b_X8_tellStops_21 X Q H2 FU  h E)
def f_X8_tellStops   (I : Mem) : Option (Mem) :=
  f_X8_tellStops_2 FU I (0 : Int32)
theorem b_X8_tellStops (X : CX) (Q : State → Prop) {I : Mem} {P : PMem} {O : Nat → Int64} {D : Bool} {n : Nat} {r : (Mem)}  (h : f_X8_tellStops I = some r) (E : EndR X cX8_tellStops RX8 5 (none) 3 n none r P O D Q) : Here X cX8_tellStops RX8 5 (none) 3 n 0 [some (.inr (.inr (8, 0, 0))), none, none, none, none] [] I P O D n Q := by
  unfold f_X8_tellStops at h
  refine h_iconst (0 : Int32) dX8_tellStops_0 k_iconst_0 ?_
  refine h_istore_n dX8_tellStops_1 (by decide) rfl ?_
  exact (b_X8_tellStops_2 X Q FU  h E)
theorem m_X8_tellStops {I : Mem} {P : PMem} {O : Nat → Int64} {D : Bool} {n : Nat}  {r : (Mem)}  (h : f_X8_tellStops I = some r) : MethR yX8_tellStops cX8_tellStops 5 (none) 3 [.inr (.inr (8, 0, 0))] I P O D n none r P O D n := meth_R (Nat.le_refl _) (by decide) rfl (Nat.le_of_ble_eq_true rfl) rfl (fun X Q E => b_X8_tellStops X Q  h E)
def f_X8_townOn_2  (I : Mem) : Nat → Int32 → Int32 → Int32 → Option (Int32)
  | 0, _, _, _ => none
  | fu + 1, v1, v2, v3 =>
    gd (inb v1 10) <|
    if (I 55 0 0 v1.toNatClampNeg) ≤ v3 then (some (-1 : Int32)) else (gd (inb (((7 : Int32) * v1) + v3) 35) <|
    if (I 69 0 0 ((((7 : Int32) * v1) + v3).toNatClampNeg)) = v2 then (some (I 68 0 0 ((((7 : Int32) * v1) + v3).toNatClampNeg))) else ((f_X8_townOn_2 I fu) v1 v2 (v3 + (1 : Int32))))
theorem b_X8_townOn_2 (X : CX) (Q : State → Prop) {I : Mem} {P : PMem} {O : Nat → Int64} {D : Bool} {n : Nat} {r : (Int32)}  : ∀ (fu : Nat) {v1 : Int32} {v2 : Int32} {v3 : Int32}, f_X8_townOn_2 I fu v1 v2 v3 = some r → EndR X cX8_townOn RX8 4 (some .int) 2 n (some (.inl r)) I P O D Q → Here X cX8_townOn RX8 4 (some .int) 2 n 2 [some (.inr (.inr (8, 0, 0))), some (.inl v1), some (.inl v2), some (.inl v3)] [] I P O D n Q := by
  intro fu
  induction fu with
  | zero => intro v1 v2 v3 h E; cases h
  | succ fu ih =>
  intro v1 v2 v3 h E
  have H2 : ∀ (v1 : Int32) (v2 : Int32) (v3 : Int32), f_X8_townOn_2 I fu v1 v2 v3 = some r → Here X cX8_townOn RX8 4 (some .int) 2 n 2 [some (.inr (.inr (8, 0, 0))), some (.inl v1), some (.inl v2), some (.inl v3)] [] I P O D n Q := fun _ _ _ b => ih b E
  simp only [f_X8_townOn_2] at h
  refine h_iload_n dX8_townOn_2 rfl ?_
  refine h_aload_n dX8_townOn_3 rfl ?_
  refine g_X8_49  dX8_townOn_4 ?_
  refine h_iload_n dX8_townOn_7 rfl ?_
  obtain ⟨g1, h⟩ := gd_some h
  refine al_55  v1.toNatClampNeg rfl dX8_townOn_8 g1 ?_
  refine h_icmp_ge (tgt := 45) dX8_townOn_9 (by decide) (fun q1 => ?_) (fun q1 => ?_)
  · rw [if_pos q1] at h
    refine h_iconst (-1 : Int32) dX8_townOn_45 k_iconst_m1 ?_
    cases h
    exact h_iret dX8_townOn_46 rfl E
  · rw [if_neg q1] at h
    refine h_aload_n dX8_townOn_12 rfl ?_
    refine g_X8_94  dX8_townOn_13 ?_
    refine h_bipush (7 : Int32) dX8_townOn_16 k_bipush_7 ?_
    refine h_iload_n dX8_townOn_18 rfl ?_
    refine h_imul dX8_townOn_19 ?_
    refine h_iload_n dX8_townOn_20 rfl ?_
    refine h_iadd dX8_townOn_21 ?_
    obtain ⟨g2, h⟩ := gd_some h
    refine al_69  ((((7 : Int32) * v1) + v3).toNatClampNeg) rfl dX8_townOn_22 g2 ?_
    refine h_iload_n dX8_townOn_23 rfl ?_
    refine h_icmp_ne (tgt := 39) dX8_townOn_24 (by decide) (fun q2 => ?_) (fun q2 => ?_)
    · rw [if_neg q2] at h
      refine h_iinc (1 : Int32) dX8_townOn_39 rfl k_iinc_1 (by decide) rfl ?_
      refine h_goto (tgt := 2) dX8_townOn_42 (by decide) ?_
      exact (H2 _ _ _ h)
    · rw [if_pos q2] at h
      refine h_aload_n dX8_townOn_27 rfl ?_
      refine g_X8_91  dX8_townOn_28 ?_
      refine h_bipush (7 : Int32) dX8_townOn_31 k_bipush_7 ?_
      refine h_iload_n dX8_townOn_33 rfl ?_
      refine h_imul dX8_townOn_34 ?_
      refine h_iload_n dX8_townOn_35 rfl ?_
      refine h_iadd dX8_townOn_36 ?_
      refine al_68  ((((7 : Int32) * v1) + v3).toNatClampNeg) rfl dX8_townOn_37 g2 ?_
      cases h
      exact h_iret dX8_townOn_38 rfl E
def f_X8_townOn  (I : Mem) (v1 : Int32) (v2 : Int32) : Option (Int32) :=
  f_X8_townOn_2 I FU v1 v2 (0 : Int32)
theorem b_X8_townOn (X : CX) (Q : State → Prop) {I : Mem} {P : PMem} {O : Nat → Int64} {D : Bool} {n : Nat} {v1 : Int32} {v2 : Int32} {r : (Int32)}  (h : f_X8_townOn I v1 v2 = some r) (E : EndR X cX8_townOn RX8 4 (some .int) 2 n (some (.inl r)) I P O D Q) : Here X cX8_townOn RX8 4 (some .int) 2 n 0 [some (.inr (.inr (8, 0, 0))), some (.inl v1), some (.inl v2), none] [] I P O D n Q := by
  unfold f_X8_townOn at h
  refine h_iconst (0 : Int32) dX8_townOn_0 k_iconst_0 ?_
  refine h_istore_n dX8_townOn_1 (by decide) rfl ?_
  exact (b_X8_townOn_2 X Q FU  h E)
theorem m_X8_townOn {I : Mem} {P : PMem} {O : Nat → Int64} {D : Bool} {n : Nat} {v1 : Int32} {v2 : Int32} {r : (Int32)}  (h : f_X8_townOn I v1 v2 = some r) : MethR yX8_townOn cX8_townOn 4 (some .int) 2 [.inr (.inr (8, 0, 0)), .inl v1, .inl v2] I P O D n (some (.inl r)) I P O D n := meth_R (Nat.le_refl _) (by decide) rfl (Nat.le_of_ble_eq_true rfl) rfl (fun X Q E => b_X8_townOn X Q  h E)
