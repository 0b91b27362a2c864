theorem dX8_takeHalf_0 : decode cX8_takeHalf 0 = .ok (.iconst 0, 1) := by decide +kernel
theorem dX8_takeHalf_1 : decode cX8_takeHalf 1 = .ok (.istore_n 1, 1) := by decide +kernel
theorem dX8_takeHalf_2 : decode cX8_takeHalf 2 = .ok (.iload_n 1, 1) := by decide +kernel
theorem dX8_takeHalf_3 : decode cX8_takeHalf 3 = .ok (.aload_n 0, 1) := by decide +kernel
theorem dX8_takeHalf_4 : decode cX8_takeHalf 4 = .ok (.arraylength, 1) := by decide +kernel
theorem dX8_takeHalf_5 : decode cX8_takeHalf 5 = .ok (.iconst 2, 1) := by decide +kernel
theorem dX8_takeHalf_6 : decode cX8_takeHalf 6 = .ok (.idiv, 1) := by decide +kernel
theorem dX8_takeHalf_7 : decode cX8_takeHalf 7 = .ok (.if_icmp .ge 20, 3) := by decide +kernel
theorem dX8_takeHalf_10 : decode cX8_takeHalf 10 = .ok (.aload_n 0, 1) := by decide +kernel
theorem dX8_takeHalf_11 : decode cX8_takeHalf 11 = .ok (.iload_n 1, 1) := by decide +kernel
theorem dX8_takeHalf_12 : decode cX8_takeHalf 12 = .ok (.aload_n 0, 1) := by decide +kernel
theorem dX8_takeHalf_13 : decode cX8_takeHalf 13 = .ok (.aload_n 0, 1) := by decide +kernel
theorem dX8_takeHalf_14 : decode cX8_takeHalf 14 = .ok (.arraylength, 1) := by decide +kernel
theorem dX8_takeHalf_15 : decode cX8_takeHalf 15 = .ok (.iconst 2, 1) := by decide +kernel
theorem dX8_takeHalf_16 : decode cX8_takeHalf 16 = .ok (.idiv, 1) := by decide +kernel
theorem dX8_takeHalf_17 : decode cX8_takeHalf 17 = .ok (.iload_n 1, 1) := by decide +kernel
theorem dX8_takeHalf_18 : decode cX8_takeHalf 18 = .ok (.iadd, 1) := by decide +kernel
theorem dX8_takeHalf_19 : decode cX8_takeHalf 19 = .ok (.iaload, 1) := by decide +kernel
theorem dX8_takeHalf_20 : decode cX8_takeHalf 20 = .ok (.iastore, 1) := by decide +kernel
theorem dX8_takeHalf_21 : decode cX8_takeHalf 21 = .ok (.iinc 1 1, 3) := by decide +kernel
theorem dX8_takeHalf_24 : decode cX8_takeHalf 24 = .ok (.goto (-22), 3) := by decide +kernel
theorem dX8_takeHalf_27 : decode cX8_takeHalf 27 = .ok (.return_, 1) := by decide +kernel
theorem dX8_tellFar_0 : decode cX8_tellFar 0 = .ok (.iconst 0, 1) := by decide +kernel
theorem dX8_tellFar_1 : decode cX8_tellFar 1 = .ok (.istore_n 1, 1) := by decide +kernel
theorem dX8_tellFar_2 : decode cX8_tellFar 2 = .ok (.iload_n 1, 1) := by decide +kernel
theorem dX8_tellFar_3 : decode cX8_tellFar 3 = .ok (.aload_n 0, 1) := by decide +kernel
theorem dX8_tellFar_4 : decode cX8_tellFar 4 = .ok (.getfield 34, 3) := by decide +kernel
theorem dX8_tellFar_7 : decode cX8_tellFar 7 = .ok (.iconst 0, 1) := by decide +kernel
theorem dX8_tellFar_8 : decode cX8_tellFar 8 = .ok (.iaload, 1) := by decide +kernel
theorem dX8_tellFar_9 : decode cX8_tellFar 9 = .ok (.if_icmp .ge 74, 3) := by decide +kernel
theorem dX8_tellFar_12 : decode cX8_tellFar 12 = .ok (.iconst 0, 1) := by decide +kernel
theorem dX8_tellFar_13 : decode cX8_tellFar 13 = .ok (.istore_n 2, 1) := by decide +kernel
theorem dX8_tellFar_14 : decode cX8_tellFar 14 = .ok (.iload_n 2, 1) := by decide +kernel
theorem dX8_tellFar_15 : decode cX8_tellFar 15 = .ok (.aload_n 0, 1) := by decide +kernel
theorem dX8_tellFar_16 : decode cX8_tellFar 16 = .ok (.getfield 34, 3) := by decide +kernel
theorem dX8_tellFar_19 : decode cX8_tellFar 19 = .ok (.iconst 0, 1) := by decide +kernel
theorem dX8_tellFar_20 : decode cX8_tellFar 20 = .ok (.iaload, 1) := by decide +kernel
theorem dX8_tellFar_21 : decode cX8_tellFar 21 = .ok (.if_icmp .ge 56, 3) := by decide +kernel
theorem dX8_tellFar_24 : decode cX8_tellFar 24 = .ok (.aload_n 0, 1) := by decide +kernel
theorem dX8_tellFar_25 : decode cX8_tellFar 25 = .ok (.getfield 70, 3) := by decide +kernel
theorem dX8_tellFar_28 : decode cX8_tellFar 28 = .ok (.iload_n 1, 1) := by decide +kernel
theorem dX8_tellFar_29 : decode cX8_tellFar 29 = .ok (.iload_n 2, 1) := by decide +kernel
theorem dX8_tellFar_30 : decode cX8_tellFar 30 = .ok (.invokestatic 276, 3) := by decide +kernel
theorem dX8_tellFar_33 : decode cX8_tellFar 33 = .ok (.iload_n 1, 1) := by decide +kernel
theorem dX8_tellFar_34 : decode cX8_tellFar 34 = .ok (.iload_n 2, 1) := by decide +kernel
theorem dX8_tellFar_35 : decode cX8_tellFar 35 = .ok (.if_icmp .ne 7, 3) := by decide +kernel
theorem dX8_tellFar_38 : decode cX8_tellFar 38 = .ok (.iconst 0, 1) := by decide +kernel
theorem dX8_tellFar_39 : decode cX8_tellFar 39 = .ok (.goto 31, 3) := by decide +kernel
theorem dX8_tellFar_42 : decode cX8_tellFar 42 = .ok (.aload_n 0, 1) := by decide +kernel
theorem dX8_tellFar_43 : decode cX8_tellFar 43 = .ok (.getfield 38, 3) := by decide +kernel
theorem dX8_tellFar_46 : decode cX8_tellFar 46 = .ok (.iload_n 1, 1) := by decide +kernel
theorem dX8_tellFar_47 : decode cX8_tellFar 47 = .ok (.iload_n 2, 1) := by decide +kernel
theorem dX8_tellFar_48 : decode cX8_tellFar 48 = .ok (.invokestatic 276, 3) := by decide +kernel
theorem dX8_tellFar_51 : decode cX8_tellFar 51 = .ok (.iaload, 1) := by decide +kernel
theorem dX8_tellFar_52 : decode cX8_tellFar 52 = .ok (.ifCond .le 16, 3) := by decide +kernel
theorem dX8_tellFar_55 : decode cX8_tellFar 55 = .ok (.aload_n 0, 1) := by decide +kernel
theorem dX8_tellFar_56 : decode cX8_tellFar 56 = .ok (.getfield 38, 3) := by decide +kernel
theorem dX8_tellFar_59 : decode cX8_tellFar 59 = .ok (.iload_n 1, 1) := by decide +kernel
theorem dX8_tellFar_60 : decode cX8_tellFar 60 = .ok (.iload_n 2, 1) := by decide +kernel
theorem dX8_tellFar_61 : decode cX8_tellFar 61 = .ok (.invokestatic 276, 3) := by decide +kernel
theorem dX8_tellFar_64 : decode cX8_tellFar 64 = .ok (.iaload, 1) := by decide +kernel
theorem dX8_tellFar_65 : decode cX8_tellFar 65 = .ok (.goto 5, 3) := by decide +kernel
theorem dX8_tellFar_68 : decode cX8_tellFar 68 = .ok (.ldc 186, 2) := by decide +kernel
theorem dX8_tellFar_70 : decode cX8_tellFar 70 = .ok (.iastore, 1) := by decide +kernel
theorem dX8_tellFar_71 : decode cX8_tellFar 71 = .ok (.iinc 2 1, 3) := by decide +kernel
theorem dX8_tellFar_74 : decode cX8_tellFar 74 = .ok (.goto (-60), 3) := by decide +kernel
theorem dX8_tellFar_77 : decode cX8_tellFar 77 = .ok (.iinc 1 1, 3) := by decide +kernel
theorem dX8_tellFar_80 : decode cX8_tellFar 80 = .ok (.goto (-78), 3) := by decide +kernel
theorem dX8_tellFar_83 : decode cX8_tellFar 83 = .ok (.iconst 0, 1) := by decide +kernel
theorem dX8_tellFar_84 : decode cX8_tellFar 84 = .ok (.istore_n 1, 1) := by decide +kernel
theorem dX8_tellFar_85 : decode cX8_tellFar 85 = .ok (.iload_n 1, 1) := by decide +kernel
theorem dX8_tellFar_86 : decode cX8_tellFar 86 = .ok (.aload_n 0, 1) := by decide +kernel
theorem dX8_tellFar_87 : decode cX8_tellFar 87 = .ok (.getfield 34, 3) := by decide +kernel
theorem dX8_tellFar_90 : decode cX8_tellFar 90 = .ok (.iconst 0, 1) := by decide +kernel
theorem dX8_tellFar_91 : decode cX8_tellFar 91 = .ok (.iaload, 1) := by decide +kernel
theorem dX8_tellFar_92 : decode cX8_tellFar 92 = .ok (.if_icmp .ge 89, 3) := by decide +kernel
theorem dX8_tellFar_95 : decode cX8_tellFar 95 = .ok (.iconst 0, 1) := by decide +kernel
theorem dX8_tellFar_96 : decode cX8_tellFar 96 = .ok (.istore_n 2, 1) := by decide +kernel
theorem dX8_tellFar_97 : decode cX8_tellFar 97 = .ok (.iload_n 2, 1) := by decide +kernel
theorem dX8_tellFar_98 : decode cX8_tellFar 98 = .ok (.aload_n 0, 1) := by decide +kernel
theorem dX8_tellFar_99 : decode cX8_tellFar 99 = .ok (.getfield 34, 3) := by decide +kernel
theorem dX8_tellFar_102 : decode cX8_tellFar 102 = .ok (.iconst 0, 1) := by decide +kernel
theorem dX8_tellFar_103 : decode cX8_tellFar 103 = .ok (.iaload, 1) := by decide +kernel
theorem dX8_tellFar_104 : decode cX8_tellFar 104 = .ok (.if_icmp .ge 71, 3) := by decide +kernel
theorem dX8_tellFar_107 : decode cX8_tellFar 107 = .ok (.iconst 0, 1) := by decide +kernel
theorem dX8_tellFar_108 : decode cX8_tellFar 108 = .ok (.istore_n 3, 1) := by decide +kernel
theorem dX8_tellFar_109 : decode cX8_tellFar 109 = .ok (.iload_n 3, 1) := by decide +kernel
theorem dX8_tellFar_110 : decode cX8_tellFar 110 = .ok (.aload_n 0, 1) := by decide +kernel
theorem dX8_tellFar_111 : decode cX8_tellFar 111 = .ok (.getfield 34, 3) := by decide +kernel
theorem dX8_tellFar_114 : decode cX8_tellFar 114 = .ok (.iconst 0, 1) := by decide +kernel
theorem dX8_tellFar_115 : decode cX8_tellFar 115 = .ok (.iaload, 1) := by decide +kernel
theorem dX8_tellFar_116 : decode cX8_tellFar 116 = .ok (.if_icmp .ge 53, 3) := by decide +kernel
theorem dX8_tellFar_119 : decode cX8_tellFar 119 = .ok (.aload_n 0, 1) := by decide +kernel
theorem dX8_tellFar_120 : decode cX8_tellFar 120 = .ok (.getfield 70, 3) := by decide +kernel
theorem dX8_tellFar_123 : decode cX8_tellFar 123 = .ok (.iload_n 2, 1) := by decide +kernel
theorem dX8_tellFar_124 : decode cX8_tellFar 124 = .ok (.iload_n 3, 1) := by decide +kernel
theorem dX8_tellFar_125 : decode cX8_tellFar 125 = .ok (.invokestatic 276, 3) := by decide +kernel
theorem dX8_tellFar_128 : decode cX8_tellFar 128 = .ok (.aload_n 0, 1) := by decide +kernel
theorem dX8_tellFar_129 : decode cX8_tellFar 129 = .ok (.getfield 70, 3) := by decide +kernel
theorem dX8_tellFar_132 : decode cX8_tellFar 132 = .ok (.iload_n 2, 1) := by decide +kernel
theorem dX8_tellFar_133 : decode cX8_tellFar 133 = .ok (.iload_n 3, 1) := by decide +kernel
theorem dX8_tellFar_134 : decode cX8_tellFar 134 = .ok (.invokestatic 276, 3) := by decide +kernel
theorem dX8_tellFar_137 : decode cX8_tellFar 137 = .ok (.iaload, 1) := by decide +kernel
theorem dX8_tellFar_138 : decode cX8_tellFar 138 = .ok (.aload_n 0, 1) := by decide +kernel
theorem dX8_tellFar_139 : decode cX8_tellFar 139 = .ok (.getfield 70, 3) := by decide +kernel
theorem dX8_tellFar_142 : decode cX8_tellFar 142 = .ok (.iload_n 2, 1) := by decide +kernel
theorem dX8_tellFar_143 : decode cX8_tellFar 143 = .ok (.iload_n 1, 1) := by decide +kernel
theorem dX8_tellFar_144 : decode cX8_tellFar 144 = .ok (.invokestatic 276, 3) := by decide +kernel
theorem dX8_tellFar_147 : decode cX8_tellFar 147 = .ok (.iaload, 1) := by decide +kernel
theorem dX8_tellFar_148 : decode cX8_tellFar 148 = .ok (.aload_n 0, 1) := by decide +kernel
theorem dX8_tellFar_149 : decode cX8_tellFar 149 = .ok (.getfield 70, 3) := by decide +kernel
theorem dX8_tellFar_152 : decode cX8_tellFar 152 = .ok (.iload_n 1, 1) := by decide +kernel
theorem dX8_tellFar_153 : decode cX8_tellFar 153 = .ok (.iload_n 3, 1) := by decide +kernel
theorem dX8_tellFar_154 : decode cX8_tellFar 154 = .ok (.invokestatic 276, 3) := by decide +kernel
theorem dX8_tellFar_157 : decode cX8_tellFar 157 = .ok (.iaload, 1) := by decide +kernel
theorem dX8_tellFar_158 : decode cX8_tellFar 158 = .ok (.iadd, 1) := by decide +kernel
theorem dX8_tellFar_159 : decode cX8_tellFar 159 = .ok (.invokestatic 187, 3) := by decide +kernel
theorem dX8_tellFar_162 : decode cX8_tellFar 162 = .ok (.iastore, 1) := by decide +kernel
theorem dX8_tellFar_163 : decode cX8_tellFar 163 = .ok (.iinc 3 1, 3) := by decide +kernel
theorem dX8_tellFar_166 : decode cX8_tellFar 166 = .ok (.goto (-57), 3) := by decide +kernel
theorem dX8_tellFar_169 : decode cX8_tellFar 169 = .ok (.iinc 2 1, 3) := by decide +kernel
theorem dX8_tellFar_172 : decode cX8_tellFar 172 = .ok (.goto (-75), 3) := by decide +kernel
theorem dX8_tellFar_175 : decode cX8_tellFar 175 = .ok (.iinc 1 1, 3) := by decide +kernel
theorem dX8_tellFar_178 : decode cX8_tellFar 178 = .ok (.goto (-93), 3) := by decide +kernel
theorem dX8_tellFar_181 : decode cX8_tellFar 181 = .ok (.return_, 1) := by decide +kernel
theorem dX8_takeOver_0 : decode cX8_takeOver 0 = .ok (.aload_n 0, 1) := by decide +kernel
theorem dX8_takeOver_1 : decode cX8_takeOver 1 = .ok (.getfield 34, 3) := by decide +kernel
theorem dX8_takeOver_4 : decode cX8_takeOver 4 = .ok (.invokestatic 307, 3) := by decide +kernel
theorem dX8_takeOver_7 : decode cX8_takeOver 7 = .ok (.aload_n 0, 1) := by decide +kernel
theorem dX8_takeOver_8 : decode cX8_takeOver 8 = .ok (.getfield 38, 3) := by decide +kernel
theorem dX8_takeOver_11 : decode cX8_takeOver 11 = .ok (.invokestatic 307, 3) := by decide +kernel
theorem dX8_takeOver_14 : decode cX8_takeOver 14 = .ok (.aload_n 0, 1) := by decide +kernel
theorem dX8_takeOver_15 : decode cX8_takeOver 15 = .ok (.getfield 41, 3) := by decide +kernel
theorem dX8_takeOver_18 : decode cX8_takeOver 18 = .ok (.invokestatic 307, 3) := by decide +kernel
theorem dX8_takeOver_21 : decode cX8_takeOver 21 = .ok (.aload_n 0, 1) := by decide +kernel
theorem dX8_takeOver_22 : decode cX8_takeOver 22 = .ok (.getfield 44, 3) := by decide +kernel
theorem dX8_takeOver_25 : decode cX8_takeOver 25 = .ok (.invokestatic 307, 3) := by decide +kernel
theorem dX8_takeOver_28 : decode cX8_takeOver 28 = .ok (.aload_n 0, 1) := by decide +kernel
theorem dX8_takeOver_29 : decode cX8_takeOver 29 = .ok (.getfield 47, 3) := by decide +kernel
theorem dX8_takeOver_32 : decode cX8_takeOver 32 = .ok (.invokestatic 307, 3) := by decide +kernel
theorem dX8_takeOver_35 : decode cX8_takeOver 35 = .ok (.aload_n 0, 1) := by decide +kernel
theorem dX8_takeOver_36 : decode cX8_takeOver 36 = .ok (.getfield 49, 3) := by decide +kernel
theorem dX8_takeOver_39 : decode cX8_takeOver 39 = .ok (.invokestatic 307, 3) := by decide +kernel
theorem dX8_takeOver_42 : decode cX8_takeOver 42 = .ok (.aload_n 0, 1) := by decide +kernel
theorem dX8_takeOver_43 : decode cX8_takeOver 43 = .ok (.getfield 52, 3) := by decide +kernel
theorem dX8_takeOver_46 : decode cX8_takeOver 46 = .ok (.invokestatic 307, 3) := by decide +kernel
theorem dX8_takeOver_49 : decode cX8_takeOver 49 = .ok (.aload_n 0, 1) := by decide +kernel
theorem dX8_takeOver_50 : decode cX8_takeOver 50 = .ok (.getfield 55, 3) := by decide +kernel
theorem dX8_takeOver_53 : decode cX8_takeOver 53 = .ok (.invokestatic 307, 3) := by decide +kernel
theorem dX8_takeOver_56 : decode cX8_takeOver 56 = .ok (.aload_n 0, 1) := by decide +kernel
theorem dX8_takeOver_57 : decode cX8_takeOver 57 = .ok (.getfield 57, 3) := by decide +kernel
theorem dX8_takeOver_60 : decode cX8_takeOver 60 = .ok (.invokestatic 307, 3) := by decide +kernel
theorem dX8_takeOver_63 : decode cX8_takeOver 63 = .ok (.aload_n 0, 1) := by decide +kernel
theorem dX8_takeOver_64 : decode cX8_takeOver 64 = .ok (.aload_n 0, 1) := by decide +kernel
theorem dX8_takeOver_65 : decode cX8_takeOver 65 = .ok (.getfield 34, 3) := by decide +kernel
theorem dX8_takeOver_68 : decode cX8_takeOver 68 = .ok (.iconst 1, 1) := by decide +kernel
theorem dX8_takeOver_69 : decode cX8_takeOver 69 = .ok (.iaload, 1) := by decide +kernel
theorem dX8_takeOver_70 : decode cX8_takeOver 70 = .ok (.putfield 311, 3) := by decide +kernel
theorem dX8_takeOver_73 : decode cX8_takeOver 73 = .ok (.aload_n 0, 1) := by decide +kernel
theorem dX8_takeOver_74 : decode cX8_takeOver 74 = .ok (.iconst 0, 1) := by decide +kernel
theorem dX8_takeOver_75 : decode cX8_takeOver 75 = .ok (.putfield 314, 3) := by decide +kernel
theorem dX8_takeOver_78 : decode cX8_takeOver 78 = .ok (.aload_n 0, 1) := by decide +kernel
theorem dX8_takeOver_79 : decode cX8_takeOver 79 = .ok (.iconst 0, 1) := by decide +kernel
theorem dX8_takeOver_80 : decode cX8_takeOver 80 = .ok (.putfield 317, 3) := by decide +kernel
theorem dX8_takeOver_83 : decode cX8_takeOver 83 = .ok (.aload_n 0, 1) := by decide +kernel
theorem dX8_takeOver_84 : decode cX8_takeOver 84 = .ok (.iconst 0, 1) := by decide +kernel
theorem dX8_takeOver_85 : decode cX8_takeOver 85 = .ok (.putfield 320, 3) := by decide +kernel
theorem dX8_takeOver_88 : decode cX8_takeOver 88 = .ok (.aload_n 0, 1) := by decide +kernel
theorem dX8_takeOver_89 : decode cX8_takeOver 89 = .ok (.iconst 0, 1) := by decide +kernel
theorem dX8_takeOver_90 : decode cX8_takeOver 90 = .ok (.putfield 323, 3) := by decide +kernel
theorem dX8_takeOver_93 : decode cX8_takeOver 93 = .ok (.aload_n 0, 1) := by decide +kernel
theorem dX8_takeOver_94 : decode cX8_takeOver 94 = .ok (.iconst 0, 1) := by decide +kernel
theorem dX8_takeOver_95 : decode cX8_takeOver 95 = .ok (.putfield 326, 3) := by decide +kernel
theorem dX8_takeOver_98 : decode cX8_takeOver 98 = .ok (.aload_n 0, 1) := by decide +kernel
theorem dX8_takeOver_99 : decode cX8_takeOver 99 = .ok (.iconst 0, 1) := by decide +kernel
theorem dX8_takeOver_100 : decode cX8_takeOver 100 = .ok (.putfield 329, 3) := by decide +kernel
theorem dX8_takeOver_103 : decode cX8_takeOver 103 = .ok (.aload_n 0, 1) := by decide +kernel
theorem dX8_takeOver_104 : decode cX8_takeOver 104 = .ok (.invokevirtual 333, 3) := by decide +kernel
theorem dX8_takeOver_107 : decode cX8_takeOver 107 = .ok (.return_, 1) := by decide +kernel
theorem dX8_land_0 : decode cX8_land 0 = .ok (.aload_n 0, 1) := by decide +kernel
theorem dX8_land_1 : decode cX8_land 1 = .ok (.iconst 0, 1) := by decide +kernel
theorem dX8_land_2 : decode cX8_land 2 = .ok (.putfield 150, 3) := by decide +kernel
theorem dX8_land_5 : decode cX8_land 5 = .ok (.iload_n 1, 1) := by decide +kernel
theorem dX8_land_6 : decode cX8_land 6 = .ok (.ifCond .lt 11, 3) := by decide +kernel
theorem dX8_land_9 : decode cX8_land 9 = .ok (.iload_n 1, 1) := by decide +kernel
theorem dX8_land_10 : decode cX8_land 10 = .ok (.aload_n 0, 1) := by decide +kernel
theorem dX8_land_11 : decode cX8_land 11 = .ok (.getfield 157, 3) := by decide +kernel
theorem dX8_land_14 : decode cX8_land 14 = .ok (.if_icmp .le 9, 3) := by decide +kernel
theorem dX8_land_17 : decode cX8_land 17 = .ok (.aload_n 0, 1) := by decide +kernel
theorem dX8_land_18 : decode cX8_land 18 = .ok (.iconst 1, 1) := by decide +kernel
theorem dX8_land_19 : decode cX8_land 19 = .ok (.invokevirtual 298, 3) := by decide +kernel
theorem dX8_land_22 : decode cX8_land 22 = .ok (.ireturn, 1) := by decide +kernel
theorem dX8_land_23 : decode cX8_land 23 = .ok (.aload_n 0, 1) := by decide +kernel
theorem dX8_land_24 : decode cX8_land 24 = .ok (.iconst 0, 1) := by decide +kernel
theorem dX8_land_25 : decode cX8_land 25 = .ok (.putfield 157, 3) := by decide +kernel
theorem dX8_land_28 : decode cX8_land 28 = .ok (.aload_n 0, 1) := by decide +kernel
theorem dX8_land_29 : decode cX8_land 29 = .ok (.iload_n 1, 1) := by decide +kernel
theorem dX8_land_30 : decode cX8_land 30 = .ok (.putfield 160, 3) := by decide +kernel
theorem dX8_land_33 : decode cX8_land 33 = .ok (.aload_n 0, 1) := by decide +kernel
theorem dX8_land_34 : decode cX8_land 34 = .ok (.iconst 0, 1) := by decide +kernel
theorem dX8_land_35 : decode cX8_land 35 = .ok (.putfield 163, 3) := by decide +kernel
theorem dX8_land_38 : decode cX8_land 38 = .ok (.aload_n 0, 1) := by decide +kernel
theorem dX8_land_39 : decode cX8_land 39 = .ok (.iconst 0, 1) := by decide +kernel
theorem dX8_land_40 : decode cX8_land 40 = .ok (.putfield 199, 3) := by decide +kernel
theorem dX8_land_43 : decode cX8_land 43 = .ok (.aload_n 0, 1) := by decide +kernel
theorem dX8_land_44 : decode cX8_land 44 = .ok (.iconst (-1), 1) := by decide +kernel
theorem dX8_land_45 : decode cX8_land 45 = .ok (.putfield 66, 3) := by decide +kernel
theorem dX8_land_48 : decode cX8_land 48 = .ok (.iconst 0, 1) := by decide +kernel
theorem dX8_land_49 : decode cX8_land 49 = .ok (.istore_n 2, 1) := by decide +kernel
theorem dX8_land_50 : decode cX8_land 50 = .ok (.iload_n 2, 1) := by decide +kernel
theorem dX8_land_51 : decode cX8_land 51 = .ok (.bipush 7, 2) := by decide +kernel
theorem dX8_land_53 : decode cX8_land 53 = .ok (.if_icmp .ge 29, 3) := by decide +kernel
theorem dX8_land_56 : decode cX8_land 56 = .ok (.aload_n 0, 1) := by decide +kernel
theorem dX8_land_57 : decode cX8_land 57 = .ok (.getfield 34, 3) := by decide +kernel
theorem dX8_land_60 : decode cX8_land 60 = .ok (.bipush 7, 2) := by decide +kernel
theorem dX8_land_62 : decode cX8_land 62 = .ok (.iload_n 2, 1) := by decide +kernel
theorem dX8_land_63 : decode cX8_land 63 = .ok (.iadd, 1) := by decide +kernel
theorem dX8_land_64 : decode cX8_land 64 = .ok (.iload_n 2, 1) := by decide +kernel
theorem dX8_land_65 : decode cX8_land 65 = .ok (.iconst 3, 1) := by decide +kernel
theorem dX8_land_66 : decode cX8_land 66 = .ok (.if_icmp .ne 8, 3) := by decide +kernel
theorem dX8_land_69 : decode cX8_land 69 = .ok (.bipush 10, 2) := by decide +kernel
theorem dX8_land_71 : decode cX8_land 71 = .ok (.goto 4, 3) := by decide +kernel
theorem dX8_land_74 : decode cX8_land 74 = .ok (.iconst 0, 1) := by decide +kernel
theorem dX8_land_75 : decode cX8_land 75 = .ok (.iastore, 1) := by decide +kernel
theorem dX8_land_76 : decode cX8_land 76 = .ok (.iinc 2 1, 3) := by decide +kernel
theorem dX8_land_79 : decode cX8_land 79 = .ok (.goto (-29), 3) := by decide +kernel
theorem dX8_land_82 : decode cX8_land 82 = .ok (.iconst 0, 1) := by decide +kernel
theorem dX8_land_83 : decode cX8_land 83 = .ok (.istore_n 2, 1) := by decide +kernel
theorem dX8_land_84 : decode cX8_land 84 = .ok (.iload_n 2, 1) := by decide +kernel
theorem dX8_land_85 : decode cX8_land 85 = .ok (.bipush 81, 2) := by decide +kernel
theorem dX8_land_87 : decode cX8_land 87 = .ok (.if_icmp .ge 19, 3) := by decide +kernel
theorem dX8_land_90 : decode cX8_land 90 = .ok (.aload_n 0, 1) := by decide +kernel
theorem dX8_land_91 : decode cX8_land 91 = .ok (.getfield 38, 3) := by decide +kernel
theorem dX8_land_94 : decode cX8_land 94 = .ok (.bipush 81, 2) := by decide +kernel
theorem dX8_land_96 : decode cX8_land 96 = .ok (.iload_n 2, 1) := by decide +kernel
theorem dX8_land_97 : decode cX8_land 97 = .ok (.iadd, 1) := by decide +kernel
theorem dX8_land_98 : decode cX8_land 98 = .ok (.iconst 0, 1) := by decide +kernel
theorem dX8_land_99 : decode cX8_land 99 = .ok (.iastore, 1) := by decide +kernel
theorem dX8_land_100 : decode cX8_land 100 = .ok (.iinc 2 1, 3) := by decide +kernel
theorem dX8_land_103 : decode cX8_land 103 = .ok (.goto (-19), 3) := by decide +kernel
theorem dX8_land_106 : decode cX8_land 106 = .ok (.aload_n 0, 1) := by decide +kernel
theorem dX8_land_107 : decode cX8_land 107 = .ok (.invokevirtual 224, 3) := by decide +kernel
theorem dX8_land_110 : decode cX8_land 110 = .ok (.iconst 0, 1) := by decide +kernel
theorem dX8_land_111 : decode cX8_land 111 = .ok (.istore_n 2, 1) := by decide +kernel
theorem dX8_land_112 : decode cX8_land 112 = .ok (.aload_n 0, 1) := by decide +kernel
theorem dX8_land_113 : decode cX8_land 113 = .ok (.getfield 199, 3) := by decide +kernel
theorem dX8_land_116 : decode cX8_land 116 = .ok (.ifCond .ne 19, 3) := by decide +kernel
theorem dX8_land_119 : decode cX8_land 119 = .ok (.aload_n 0, 1) := by decide +kernel
theorem dX8_land_120 : decode cX8_land 120 = .ok (.getfield 173, 3) := by decide +kernel
theorem dX8_land_123 : decode cX8_land 123 = .ok (.ifCond .eq 12, 3) := by decide +kernel
theorem dX8_land_126 : decode cX8_land 126 = .ok (.aload_n 0, 1) := by decide +kernel
theorem dX8_land_127 : decode cX8_land 127 = .ok (.iload_n 2, 1) := by decide +kernel
theorem dX8_land_128 : decode cX8_land 128 = .ok (.invokevirtual 301, 3) := by decide +kernel
theorem dX8_land_131 : decode cX8_land 131 = .ok (.istore_n 2, 1) := by decide +kernel
theorem dX8_land_132 : decode cX8_land 132 = .ok (.goto (-20), 3) := by decide +kernel
theorem dX8_land_135 : decode cX8_land 135 = .ok (.aload_n 0, 1) := by decide +kernel
theorem dX8_land_136 : decode cX8_land 136 = .ok (.getfield 199, 3) := by decide +kernel
theorem dX8_land_139 : decode cX8_land 139 = .ok (.ifCond .eq 26, 3) := by decide +kernel
theorem dX8_land_142 : decode cX8_land 142 = .ok (.aload_n 0, 1) := by decide +kernel
theorem dX8_land_143 : decode cX8_land 143 = .ok (.aload_n 0, 1) := by decide +kernel
theorem dX8_land_144 : decode cX8_land 144 = .ok (.getfield 202, 3) := by decide +kernel
theorem dX8_land_147 : decode cX8_land 147 = .ok (.putfield 66, 3) := by decide +kernel
theorem dX8_land_150 : decode cX8_land 150 = .ok (.aload_n 0, 1) := by decide +kernel
theorem dX8_land_151 : decode cX8_land 151 = .ok (.getfield 60, 3) := by decide +kernel
theorem dX8_land_154 : decode cX8_land 154 = .ok (.iconst 0, 1) := by decide +kernel
theorem dX8_land_155 : decode cX8_land 155 = .ok (.dup2, 1) := by decide +kernel
theorem dX8_land_156 : decode cX8_land 156 = .ok (.iaload, 1) := by decide +kernel
theorem dX8_land_157 : decode cX8_land 157 = .ok (.iconst 1, 1) := by decide +kernel
theorem dX8_land_158 : decode cX8_land 158 = .ok (.iadd, 1) := by decide +kernel
theorem dX8_land_159 : decode cX8_land 159 = .ok (.iastore, 1) := by decide +kernel
theorem dX8_land_160 : decode cX8_land 160 = .ok (.aload_n 0, 1) := by decide +kernel
theorem dX8_land_161 : decode cX8_land 161 = .ok (.getfield 199, 3) := by decide +kernel
theorem dX8_land_164 : decode cX8_land 164 = .ok (.ireturn, 1) := by decide +kernel
theorem dX8_land_165 : decode cX8_land 165 = .ok (.aload_n 0, 1) := by decide +kernel
theorem dX8_land_166 : decode cX8_land 166 = .ok (.invokevirtual 304, 3) := by decide +kernel
theorem dX8_land_169 : decode cX8_land 169 = .ok (.iconst 0, 1) := by decide +kernel
theorem dX8_land_170 : decode cX8_land 170 = .ok (.ireturn, 1) := by decide +kernel
theorem dX8_fault_0 : decode cX8_fault 0 = .ok (.aload_n 0, 1) := by decide +kernel
theorem dX8_fault_1 : decode cX8_fault 1 = .ok (.iconst 0, 1) := by decide +kernel
theorem dX8_fault_2 : decode cX8_fault 2 = .ok (.putfield 150, 3) := by decide +kernel
theorem dX8_fault_5 : decode cX8_fault 5 = .ok (.aload_n 0, 1) := by decide +kernel
theorem dX8_fault_6 : decode cX8_fault 6 = .ok (.getfield 66, 3) := by decide +kernel
theorem dX8_fault_9 : decode cX8_fault 9 = .ok (.ireturn, 1) := by decide +kernel
theorem dX8_newsDays_0 : decode cX8_newsDays 0 = .ok (.aload_n 0, 1) := by decide +kernel
theorem dX8_newsDays_1 : decode cX8_newsDays 1 = .ok (.getfield 70, 3) := by decide +kernel
theorem dX8_newsDays_4 : decode cX8_newsDays 4 = .ok (.iload_n 1, 1) := by decide +kernel
theorem dX8_newsDays_5 : decode cX8_newsDays 5 = .ok (.iload_n 2, 1) := by decide +kernel
theorem dX8_newsDays_6 : decode cX8_newsDays 6 = .ok (.invokestatic 276, 3) := by decide +kernel
theorem dX8_newsDays_9 : decode cX8_newsDays 9 = .ok (.iaload, 1) := by decide +kernel
theorem dX8_newsDays_10 : decode cX8_newsDays 10 = .ok (.istore_n 3, 1) := by decide +kernel
theorem dX8_newsDays_11 : decode cX8_newsDays 11 = .ok (.iload_n 3, 1) := by decide +kernel
theorem dX8_newsDays_12 : decode cX8_newsDays 12 = .ok (.ldc 186, 2) := by decide +kernel
theorem dX8_newsDays_14 : decode cX8_newsDays 14 = .ok (.if_icmp .lt 8, 3) := by decide +kernel
theorem dX8_newsDays_17 : decode cX8_newsDays 17 = .ok (.ldc 186, 2) := by decide +kernel
theorem dX8_newsDays_19 : decode cX8_newsDays 19 = .ok (.goto 17, 3) := by decide +kernel
theorem dX8_newsDays_22 : decode cX8_newsDays 22 = .ok (.iload_n 3, 1) := by decide +kernel
theorem dX8_newsDays_23 : decode cX8_newsDays 23 = .ok (.aload_n 0, 1) := by decide +kernel
theorem dX8_newsDays_24 : decode cX8_newsDays 24 = .ok (.getfield 34, 3) := by decide +kernel
theorem dX8_newsDays_27 : decode cX8_newsDays 27 = .ok (.iconst 3, 1) := by decide +kernel
theorem dX8_newsDays_28 : decode cX8_newsDays 28 = .ok (.iaload, 1) := by decide +kernel
theorem dX8_newsDays_29 : decode cX8_newsDays 29 = .ok (.imul, 1) := by decide +kernel
theorem dX8_newsDays_30 : decode cX8_newsDays 30 = .ok (.bipush 9, 2) := by decide +kernel
theorem dX8_newsDays_32 : decode cX8_newsDays 32 = .ok (.iadd, 1) := by decide +kernel
theorem dX8_newsDays_33 : decode cX8_newsDays 33 = .ok (.bipush 10, 2) := by decide +kernel
theorem dX8_newsDays_35 : decode cX8_newsDays 35 = .ok (.idiv, 1) := by decide +kernel
theorem dX8_newsDays_36 : decode cX8_newsDays 36 = .ok (.ireturn, 1) := by decide +kernel
theorem dX8_pack_0 : decode cX8_pack 0 = .ok (.iload_n 2, 1) := by decide +kernel
theorem dX8_pack_1 : decode cX8_pack 1 = .ok (.istore_n 3, 1) := by decide +kernel
theorem dX8_pack_2 : decode cX8_pack 2 = .ok (.iconst 0, 1) := by decide +kernel
theorem dX8_pack_3 : decode cX8_pack 3 = .ok (.istore 4, 2) := by decide +kernel
theorem dX8_pack_5 : decode cX8_pack 5 = .ok (.iload 4, 2) := by decide +kernel
theorem dX8_pack_7 : decode cX8_pack 7 = .ok (.iconst 5, 1) := by decide +kernel
theorem dX8_pack_8 : decode cX8_pack 8 = .ok (.if_icmp .ge 22, 3) := by decide +kernel
theorem dX8_pack_11 : decode cX8_pack 11 = .ok (.aload_n 1, 1) := by decide +kernel
theorem dX8_pack_12 : decode cX8_pack 12 = .ok (.iload_n 3, 1) := by decide +kernel
theorem dX8_pack_13 : decode cX8_pack 13 = .ok (.iload 4, 2) := by decide +kernel
theorem dX8_pack_15 : decode cX8_pack 15 = .ok (.iadd, 1) := by decide +kernel
theorem dX8_pack_16 : decode cX8_pack 16 = .ok (.aload_n 0, 1) := by decide +kernel
theorem dX8_pack_17 : decode cX8_pack 17 = .ok (.getfield 44, 3) := by decide +kernel
theorem dX8_pack_20 : decode cX8_pack 20 = .ok (.iload 4, 2) := by decide +kernel
theorem dX8_pack_22 : decode cX8_pack 22 = .ok (.iaload, 1) := by decide +kernel
theorem dX8_pack_23 : decode cX8_pack 23 = .ok (.iastore, 1) := by decide +kernel
theorem dX8_pack_24 : decode cX8_pack 24 = .ok (.iinc 4 1, 3) := by decide +kernel
theorem dX8_pack_27 : decode cX8_pack 27 = .ok (.goto (-22), 3) := by decide +kernel
theorem dX8_pack_30 : decode cX8_pack 30 = .ok (.iinc 3 5, 3) := by decide +kernel
theorem dX8_pack_33 : decode cX8_pack 33 = .ok (.aload_n 1, 1) := by decide +kernel
theorem dX8_pack_34 : decode cX8_pack 34 = .ok (.iload_n 3, 1) := by decide +kernel
theorem dX8_pack_35 : decode cX8_pack 35 = .ok (.aload_n 0, 1) := by decide +kernel
theorem dX8_pack_36 : decode cX8_pack 36 = .ok (.getfield 311, 3) := by decide +kernel
theorem dX8_pack_39 : decode cX8_pack 39 = .ok (.iastore, 1) := by decide +kernel
theorem dX8_pack_40 : decode cX8_pack 40 = .ok (.aload_n 1, 1) := by decide +kernel
theorem dX8_pack_41 : decode cX8_pack 41 = .ok (.iload_n 3, 1) := by decide +kernel
theorem dX8_pack_42 : decode cX8_pack 42 = .ok (.iconst 1, 1) := by decide +kernel
theorem dX8_pack_43 : decode cX8_pack 43 = .ok (.iadd, 1) := by decide +kernel
theorem dX8_pack_44 : decode cX8_pack 44 = .ok (.aload_n 0, 1) := by decide +kernel
theorem dX8_pack_45 : decode cX8_pack 45 = .ok (.getfield 314, 3) := by decide +kernel
theorem dX8_pack_48 : decode cX8_pack 48 = .ok (.iastore, 1) := by decide +kernel
theorem dX8_pack_49 : decode cX8_pack 49 = .ok (.aload_n 1, 1) := by decide +kernel
theorem dX8_pack_50 : decode cX8_pack 50 = .ok (.iload_n 3, 1) := by decide +kernel
theorem dX8_pack_51 : decode cX8_pack 51 = .ok (.iconst 2, 1) := by decide +kernel
theorem dX8_pack_52 : decode cX8_pack 52 = .ok (.iadd, 1) := by decide +kernel
theorem dX8_pack_53 : decode cX8_pack 53 = .ok (.aload_n 0, 1) := by decide +kernel
theorem dX8_pack_54 : decode cX8_pack 54 = .ok (.getfield 317, 3) := by decide +kernel
theorem dX8_pack_57 : decode cX8_pack 57 = .ok (.iastore, 1) := by decide +kernel
theorem dX8_pack_58 : decode cX8_pack 58 = .ok (.aload_n 1, 1) := by decide +kernel
theorem dX8_pack_59 : decode cX8_pack 59 = .ok (.iload_n 3, 1) := by decide +kernel
theorem dX8_pack_60 : decode cX8_pack 60 = .ok (.iconst 3, 1) := by decide +kernel
theorem dX8_pack_61 : decode cX8_pack 61 = .ok (.iadd, 1) := by decide +kernel
theorem dX8_pack_62 : decode cX8_pack 62 = .ok (.aload_n 0, 1) := by decide +kernel
theorem dX8_pack_63 : decode cX8_pack 63 = .ok (.getfield 320, 3) := by decide +kernel
theorem dX8_pack_66 : decode cX8_pack 66 = .ok (.iastore, 1) := by decide +kernel
theorem dX8_pack_67 : decode cX8_pack 67 = .ok (.iinc 3 4, 3) := by decide +kernel
theorem dX8_pack_70 : decode cX8_pack 70 = .ok (.iconst 0, 1) := by decide +kernel
theorem dX8_pack_71 : decode cX8_pack 71 = .ok (.istore 4, 2) := by decide +kernel
theorem dX8_pack_73 : decode cX8_pack 73 = .ok (.iload 4, 2) := by decide +kernel
theorem dX8_pack_75 : decode cX8_pack 75 = .ok (.bipush 12, 2) := by decide +kernel
theorem dX8_pack_77 : decode cX8_pack 77 = .ok (.if_icmp .ge 54, 3) := by decide +kernel
theorem dX8_pack_80 : decode cX8_pack 80 = .ok (.aload_n 1, 1) := by decide +kernel
theorem dX8_pack_81 : decode cX8_pack 81 = .ok (.iload_n 3, 1) := by decide +kernel
theorem dX8_pack_82 : decode cX8_pack 82 = .ok (.iload 4, 2) := by decide +kernel
theorem dX8_pack_84 : decode cX8_pack 84 = .ok (.iadd, 1) := by decide +kernel
theorem dX8_pack_85 : decode cX8_pack 85 = .ok (.aload_n 0, 1) := by decide +kernel
theorem dX8_pack_86 : decode cX8_pack 86 = .ok (.getfield 73, 3) := by decide +kernel
theorem dX8_pack_89 : decode cX8_pack 89 = .ok (.iload 4, 2) := by decide +kernel
theorem dX8_pack_91 : decode cX8_pack 91 = .ok (.iaload, 1) := by decide +kernel
theorem dX8_pack_92 : decode cX8_pack 92 = .ok (.iastore, 1) := by decide +kernel
theorem dX8_pack_93 : decode cX8_pack 93 = .ok (.aload_n 1, 1) := by decide +kernel
theorem dX8_pack_94 : decode cX8_pack 94 = .ok (.iload_n 3, 1) := by decide +kernel
theorem dX8_pack_95 : decode cX8_pack 95 = .ok (.bipush 12, 2) := by decide +kernel
theorem dX8_pack_97 : decode cX8_pack 97 = .ok (.iadd, 1) := by decide +kernel
theorem dX8_pack_98 : decode cX8_pack 98 = .ok (.iload 4, 2) := by decide +kernel
theorem dX8_pack_100 : decode cX8_pack 100 = .ok (.iadd, 1) := by decide +kernel
theorem dX8_pack_101 : decode cX8_pack 101 = .ok (.aload_n 0, 1) := by decide +kernel
theorem dX8_pack_102 : decode cX8_pack 102 = .ok (.getfield 76, 3) := by decide +kernel
theorem dX8_pack_105 : decode cX8_pack 105 = .ok (.iload 4, 2) := by decide +kernel
theorem dX8_pack_107 : decode cX8_pack 107 = .ok (.iaload, 1) := by decide +kernel
theorem dX8_pack_108 : decode cX8_pack 108 = .ok (.iastore, 1) := by decide +kernel
theorem dX8_pack_109 : decode cX8_pack 109 = .ok (.aload_n 1, 1) := by decide +kernel
theorem dX8_pack_110 : decode cX8_pack 110 = .ok (.iload_n 3, 1) := by decide +kernel
theorem dX8_pack_111 : decode cX8_pack 111 = .ok (.bipush 24, 2) := by decide +kernel
theorem dX8_pack_113 : decode cX8_pack 113 = .ok (.iadd, 1) := by decide +kernel
theorem dX8_pack_114 : decode cX8_pack 114 = .ok (.iload 4, 2) := by decide +kernel
theorem dX8_pack_116 : decode cX8_pack 116 = .ok (.iadd, 1) := by decide +kernel
theorem dX8_pack_117 : decode cX8_pack 117 = .ok (.aload_n 0, 1) := by decide +kernel
theorem dX8_pack_118 : decode cX8_pack 118 = .ok (.getfield 79, 3) := by decide +kernel
theorem dX8_pack_121 : decode cX8_pack 121 = .ok (.iload 4, 2) := by decide +kernel
theorem dX8_pack_123 : decode cX8_pack 123 = .ok (.iaload, 1) := by decide +kernel
theorem dX8_pack_124 : decode cX8_pack 124 = .ok (.iastore, 1) := by decide +kernel
theorem dX8_pack_125 : decode cX8_pack 125 = .ok (.iinc 4 1, 3) := by decide +kernel
theorem dX8_pack_128 : decode cX8_pack 128 = .ok (.goto (-55), 3) := by decide +kernel
theorem dX8_pack_131 : decode cX8_pack 131 = .ok (.return_, 1) := by decide +kernel
def f_X8_takeHalf_2  (c0 : Nat) (z0 : Nat) (r0 : Nat) : Nat → Mem → Int32 → Option (Mem)
  | 0, _, _ => none
  | fu + 1, I, v1 =>
    if ((Int32.ofNat (cL c0 z0)) / (2 : Int32)) ≤ v1 then (some I) else (gd (inb (((Int32.ofNat (cL c0 z0)) / (2 : Int32)) + v1) (cL c0 z0)) <|
    gd (inb v1 (cL c0 z0)) <|
    bnd (upd4 I c0 z0 r0 v1.toNatClampNeg (I c0 z0 r0 ((((Int32.ofNat (cL c0 z0)) / (2 : Int32)) + v1).toNatClampNeg))) fun I1' =>
    (f_X8_takeHalf_2 c0 z0 r0 fu) I1' (v1 + (1 : Int32)))
theorem b_X8_takeHalf_2 (X : CX) (Q : State → Prop) {P : PMem} {O : Nat → Int64} {D : Bool} {n : Nat} {c0 : Nat} {z0 : Nat} {r0 : Nat} {r : (Mem)}  (hc0 : iaOK c0 z0 r0 = true) : ∀ (fu : Nat) {I : Mem} {v1 : Int32}, f_X8_takeHalf_2 c0 z0 r0 fu I v1 = some r → EndR X cX8_takeHalf RX8 2 (none) 2 n none r P O D Q → Here X cX8_takeHalf RX8 2 (none) 2 n 2 [some (.inr (.inr (c0, z0, r0))), some (.inl v1)] [] I P O D n Q := by
  intro fu
  induction fu with
  | zero => intro I v1 h E; cases h
  | succ fu ih =>
  intro I v1 h E
  have H2 : ∀ (I : Mem) (v1 : Int32), f_X8_takeHalf_2 c0 z0 r0 fu I v1 = some r → Here X cX8_takeHalf RX8 2 (none) 2 n 2 [some (.inr (.inr (c0, z0, r0))), some (.inl v1)] [] I P O D n Q := fun _ _ b => ih b E
  simp only [f_X8_takeHalf_2] at h
  refine h_iload_n dX8_takeHalf_2 rfl ?_
  refine h_aload_n dX8_takeHalf_3 rfl ?_
  refine an_v hc0 dX8_takeHalf_4 ?_
  refine h_iconst (2 : Int32) dX8_takeHalf_5 k_iconst_2 ?_
  refine h_div dX8_takeHalf_6 (by decide) ?_
  refine h_icmp_ge (tgt := 27) dX8_takeHalf_7 (by decide) (fun q1 => ?_) (fun q1 => ?_)
  · rw [if_pos q1] at h
    cases h
    exact h_vret dX8_takeHalf_27 rfl E
  · rw [if_neg q1] at h
    refine h_aload_n dX8_takeHalf_10 rfl ?_
    refine h_iload_n dX8_takeHalf_11 rfl ?_
    refine h_aload_n dX8_takeHalf_12 rfl ?_
    refine h_aload_n dX8_takeHalf_13 rfl ?_
    refine an_v hc0 dX8_takeHalf_14 ?_
    refine h_iconst (2 : Int32) dX8_takeHalf_15 k_iconst_2 ?_
    refine h_div dX8_takeHalf_16 (by decide) ?_
    refine h_iload_n dX8_takeHalf_17 rfl ?_
    refine h_iadd dX8_takeHalf_18 ?_
    obtain ⟨g1, h⟩ := gd_some h
    refine al_v hc0 ((((Int32.ofNat (cL c0 z0)) / (2 : Int32)) + v1).toNatClampNeg) rfl dX8_takeHalf_19 g1 ?_
    obtain ⟨g2, h⟩ := gd_some h
    obtain ⟨I1', e1, h⟩ := bnd_some h
    refine as_v hc0 v1.toNatClampNeg rfl dX8_takeHalf_20 g2 ?_
    refine h_nmI e1 ?_
    refine h_iinc (1 : Int32) dX8_takeHalf_21 rfl k_iinc_1 (by decide) rfl ?_
    refine h_goto (tgt := 2) dX8_takeHalf_24 (by decide) ?_
    exact (H2 _ _ h)
def f_X8_takeHalf  (c0 : Nat) (z0 : Nat) (r0 : Nat) (I : Mem) : Option (Mem) :=
  f_X8_takeHalf_2 c0 z0 r0 FU I (0 : Int32)
theorem b_X8_takeHalf (X : CX) (Q : State → Prop) {I : Mem} {P : PMem} {O : Nat → Int64} {D : Bool} {n : Nat} {c0 : Nat} {z0 : Nat} {r0 : Nat} {r : (Mem)}  (hc0 : iaOK c0 z0 r0 = true) (h : f_X8_takeHalf c0 z0 r0 I = some r) (E : EndR X cX8_takeHalf RX8 2 (none) 2 n none r P O D Q) : Here X cX8_takeHalf RX8 2 (none) 2 n 0 [some (.inr (.inr (c0, z0, r0))), none] [] I P O D n Q := by
  unfold f_X8_takeHalf at h
  refine h_iconst (0 : Int32) dX8_takeHalf_0 k_iconst_0 ?_
  refine h_istore_n dX8_takeHalf_1 (by decide) rfl ?_
  exact (b_X8_takeHalf_2 X Q hc0 FU  h E)
theorem m_X8_takeHalf {I : Mem} {P : PMem} {O : Nat → Int64} {D : Bool} {n : Nat} {c0 : Nat} {z0 : Nat} {r0 : Nat} {r : (Mem)} (hc0 : iaOK c0 z0 r0 = true) (h : f_X8_takeHalf c0 z0 r0 I = some r) : MethR yX8_takeHalf cX8_takeHalf 2 (none) 2 [.inr (.inr (c0, z0, r0))] I P O D n none r P O D n := meth_R (Nat.le_refl _) (by decide) rfl (Nat.le_of_ble_eq_true rfl) rfl (fun X Q E => b_X8_takeHalf X Q hc0 h E)
def f_X8_tellFar_109 (k97 : Mem → Int32 → Int32 → Option (Mem))  : Nat → Mem → Int32 → Int32 → Int32 → Option (Mem)
  | 0, _, _, _, _ => none
  | fu + 1, I, v1, v2, v3 =>
    if (I 50 0 0 0) ≤ v3 then (k97 I v1 (v2 + (1 : Int32))) else ((f_X8_couple I v2 v3).bind fun y1 =>
    (f_X8_couple I v2 v3).bind fun y2 =>
    gd (inb y2 81) <|
    (f_X8_couple I v2 v1).bind fun y3 =>
    gd (inb y3 81) <|
    (f_X8_couple I v1 v3).bind fun y4 =>
    gd (inb y4 81) <|
    gd (inb y1 81) <|
    bnd (upd4 I 61 0 0 y1.toNatClampNeg (jmin (I 61 0 0 y2.toNatClampNeg) ((I 61 0 0 y3.toNatClampNeg) + (I 61 0 0 y4.toNatClampNeg)))) fun I1' =>
    (f_X8_tellFar_109 k97 fu) I1' v1 v2 (v3 + (1 : Int32)))
theorem b_X8_tellFar_109 (X : CX) (Q : State → Prop) {P : PMem} {O : Nat → Int64} {D : Bool} {n : Nat} {k97 : Mem → Int32 → Int32 → Option (Mem)} {r : (Mem)}  (H97 : ∀ (I : Mem) (v1 : Int32) (v2 : Int32), k97 I v1 v2 = some r → Here X cX8_tellFar RX8 4 (none) 3 n 97 [some (.inr (.inr (8, 0, 0))), some (.inl v1), some (.inl v2), none] [] I P O D n Q) : ∀ (fu : Nat) {I : Mem} {v1 : Int32} {v2 : Int32} {v3 : Int32}, f_X8_tellFar_109 k97 fu I v1 v2 v3 = some r → EndR X cX8_tellFar RX8 4 (none) 3 n none r P O D Q → Here X cX8_tellFar RX8 4 (none) 3 n 109 [some (.inr (.inr (8, 0, 0))), some (.inl v1), some (.inl v2), some (.inl v3)] [] I P O D n Q := by
  intro fu
  induction fu with
  | zero => intro I v1 v2 v3 h E; cases h
  | succ fu ih =>
  intro I v1 v2 v3 h E
  have H109 : ∀ (I : Mem) (v1 : Int32) (v2 : Int32) (v3 : Int32), f_X8_tellFar_109 k97 fu I v1 v2 v3 = some r → Here X cX8_tellFar RX8 4 (none) 3 n 109 [some (.inr (.inr (8, 0, 0))), some (.inl v1), some (.inl v2), some (.inl v3)] [] I P O D n Q := fun _ _ _ _ b => ih b E
  simp only [f_X8_tellFar_109] at h
  refine h_iload_n dX8_tellFar_109 rfl ?_
  refine h_aload_n dX8_tellFar_110 rfl ?_
  refine g_X8_34  dX8_tellFar_111 ?_
  refine h_iconst (0 : Int32) dX8_tellFar_114 k_iconst_0 ?_
  refine al_50  0 cl_0 dX8_tellFar_115 rfl ?_
  refine h_icmp_ge (tgt := 169) dX8_tellFar_116 (by decide) (fun q1 => ?_) (fun q1 => ?_)
  · rw [if_pos q1] at h
    refine h_iinc (1 : Int32) dX8_tellFar_169 rfl k_iinc_1 (by decide) rfl ?_
    refine h_goto (tgt := 97) dX8_tellFar_172 (by decide) ?_
    exact h_mask [true, true, true, false] (H97 _ _ _ h)
  · rw [if_neg q1] at h
    refine h_aload_n dX8_tellFar_119 rfl ?_
    refine g_X8_70  dX8_tellFar_120 ?_
    refine h_iload_n dX8_tellFar_123 rfl ?_
    refine h_iload_n dX8_tellFar_124 rfl ?_
    obtain ⟨y1, hh1, h⟩ := obd_some h
    refine h_cSi [.inl v2, .inl v3] (m_X8_couple  hh1) cs_X8_276 dX8_tellFar_125 rfl (by decide) rfl (Or.inr rfl) rfl ?_
    refine h_aload_n dX8_tellFar_128 rfl ?_
    refine g_X8_70  dX8_tellFar_129 ?_
    refine h_iload_n dX8_tellFar_132 rfl ?_
    refine h_iload_n dX8_tellFar_133 rfl ?_
    obtain ⟨y2, hh2, h⟩ := obd_some h
    refine h_cSi [.inl v2, .inl v3] (m_X8_couple  hh2) cs_X8_276 dX8_tellFar_134 rfl (by decide) rfl (Or.inr rfl) rfl ?_
    obtain ⟨g1, h⟩ := gd_some h
    refine al_61  y2.toNatClampNeg rfl dX8_tellFar_137 g1 ?_
    refine h_aload_n dX8_tellFar_138 rfl ?_
    refine g_X8_70  dX8_tellFar_139 ?_
    refine h_iload_n dX8_tellFar_142 rfl ?_
    refine h_iload_n dX8_tellFar_143 rfl ?_
    obtain ⟨y3, hh3, h⟩ := obd_some h
    refine h_cSi [.inl v2, .inl v1] (m_X8_couple  hh3) cs_X8_276 dX8_tellFar_144 rfl (by decide) rfl (Or.inr rfl) rfl ?_
    obtain ⟨g2, h⟩ := gd_some h
    refine al_61  y3.toNatClampNeg rfl dX8_tellFar_147 g2 ?_
    refine h_aload_n dX8_tellFar_148 rfl ?_
    refine g_X8_70  dX8_tellFar_149 ?_
    refine h_iload_n dX8_tellFar_152 rfl ?_
    refine h_iload_n dX8_tellFar_153 rfl ?_
    obtain ⟨y4, hh4, h⟩ := obd_some h
    refine h_cSi [.inl v1, .inl v3] (m_X8_couple  hh4) cs_X8_276 dX8_tellFar_154 rfl (by decide) rfl (Or.inr rfl) rfl ?_
    obtain ⟨g3, h⟩ := gd_some h
    refine al_61  y4.toNatClampNeg rfl dX8_tellFar_157 g3 ?_
    refine h_iadd dX8_tellFar_158 ?_
    refine h_min dX8_tellFar_159 ml_X8_187 wm1_min wm2 wm3_min (by decide) rfl ?_
    obtain ⟨g4, h⟩ := gd_some h
    obtain ⟨I1', e1, h⟩ := bnd_some h
    refine as_61  y1.toNatClampNeg rfl dX8_tellFar_162 g4 ?_
    refine h_nmI e1 ?_
    refine h_iinc (1 : Int32) dX8_tellFar_163 rfl k_iinc_1 (by decide) rfl ?_
    refine h_goto (tgt := 109) dX8_tellFar_166 (by decide) ?_
    exact (H109 _ _ _ _ h)
def f_X8_tellFar_97 (k85 : Mem → Int32 → Option (Mem))  : Nat → Mem → Int32 → Int32 → Option (Mem)
  | 0, _, _, _ => none
  | fu + 1, I, v1, v2 =>
    if (I 50 0 0 0) ≤ v2 then (k85 I (v1 + (1 : Int32))) else (f_X8_tellFar_109 (f_X8_tellFar_97 k85 fu) FU I v1 v2 (0 : Int32))
theorem b_X8_tellFar_97 (X : CX) (Q : State → Prop) {P : PMem} {O : Nat → Int64} {D : Bool} {n : Nat} {k85 : Mem → Int32 → Option (Mem)} {r : (Mem)}  (H85 : ∀ (I : Mem) (v1 : Int32), k85 I v1 = some r → Here X cX8_tellFar RX8 4 (none) 3 n 85 [some (.inr (.inr (8, 0, 0))), some (.inl v1), none, none] [] I P O D n Q) : ∀ (fu : Nat) {I : Mem} {v1 : Int32} {v2 : Int32}, f_X8_tellFar_97 k85 fu I v1 v2 = some r → EndR X cX8_tellFar RX8 4 (none) 3 n none r P O D Q → Here X cX8_tellFar RX8 4 (none) 3 n 97 [some (.inr (.inr (8, 0, 0))), some (.inl v1), some (.inl v2), none] [] I P O D n Q := by
  intro fu
  induction fu with
  | zero => intro I v1 v2 h E; cases h
  | succ fu ih =>
  intro I v1 v2 h E
  have H97 : ∀ (I : Mem) (v1 : Int32) (v2 : Int32), f_X8_tellFar_97 k85 fu I v1 v2 = some r → Here X cX8_tellFar RX8 4 (none) 3 n 97 [some (.inr (.inr (8, 0, 0))), some (.inl v1), some (.inl v2), none] [] I P O D n Q := fun _ _ _ b => ih b E
  simp only [f_X8_tellFar_97] at h
  refine h_iload_n dX8_tellFar_97 rfl ?_
  refine h_aload_n dX8_tellFar_98 rfl ?_
  refine g_X8_34  dX8_tellFar_99 ?_
  refine h_iconst (0 : Int32) dX8_tellFar_102 k_iconst_0 ?_
  refine al_50  0 cl_0 dX8_tellFar_103 rfl ?_
  refine h_icmp_ge (tgt := 175) dX8_tellFar_104 (by decide) (fun q1 => ?_) (fun q1 => ?_)
  · rw [if_pos q1] at h
    refine h_iinc (1 : Int32) dX8_tellFar_175 rfl k_iinc_1 (by decide) rfl ?_
    refine h_goto (tgt := 85) dX8_tellFar_178 (by decide) ?_
    exact h_mask [true, true, false, false] (H85 _ _ h)
  · rw [if_neg q1] at h
    refine h_iconst (0 : Int32) dX8_tellFar_107 k_iconst_0 ?_
    refine h_istore_n dX8_tellFar_108 (by decide) rfl ?_
    exact (b_X8_tellFar_109 X Q H97 FU  h E)
def f_X8_tellFar_85   : Nat → Mem → Int32 → Option (Mem)
  | 0, _, _ => none
  | fu + 1, I, v1 =>
    if (I 50 0 0 0) ≤ v1 then (some I) else (f_X8_tellFar_97 (f_X8_tellFar_85 fu) FU I v1 (0 : Int32))
theorem b_X8_tellFar_85 (X : CX) (Q : State → Prop) {P : PMem} {O : Nat → Int64} {D : Bool} {n : Nat} {r : (Mem)}  : ∀ (fu : Nat) {I : Mem} {v1 : Int32}, f_X8_tellFar_85 fu I v1 = some r → EndR X cX8_tellFar RX8 4 (none) 3 n none r P O D Q → Here X cX8_tellFar RX8 4 (none) 3 n 85 [some (.inr (.inr (8, 0, 0))), some (.inl v1), none, none] [] I P O D n Q := by
  intro fu
  induction fu with
  | zero => intro I v1 h E; cases h
  | succ fu ih =>
  intro I v1 h E
  have H85 : ∀ (I : Mem) (v1 : Int32), f_X8_tellFar_85 fu I v1 = some r → Here X cX8_tellFar RX8 4 (none) 3 n 85 [some (.inr (.inr (8, 0, 0))), some (.inl v1), none, none] [] I P O D n Q := fun _ _ b => ih b E
  simp only [f_X8_tellFar_85] at h
  refine h_iload_n dX8_tellFar_85 rfl ?_
  refine h_aload_n dX8_tellFar_86 rfl ?_
  refine g_X8_34  dX8_tellFar_87 ?_
  refine h_iconst (0 : Int32) dX8_tellFar_90 k_iconst_0 ?_
  refine al_50  0 cl_0 dX8_tellFar_91 rfl ?_
  refine h_icmp_ge (tgt := 181) dX8_tellFar_92 (by decide) (fun q1 => ?_) (fun q1 => ?_)
  · rw [if_pos q1] at h
    cases h
    exact h_vret dX8_tellFar_181 rfl E
  · rw [if_neg q1] at h
    refine h_iconst (0 : Int32) dX8_tellFar_95 k_iconst_0 ?_
    refine h_istore_n dX8_tellFar_96 (by decide) rfl ?_
    exact (b_X8_tellFar_97 X Q H85 FU  h E)
def f_X8_tellFar_14 (k2 : Mem → Int32 → Option (Mem))  : Nat → Mem → Int32 → Int32 → Option (Mem)
  | 0, _, _, _ => none
  | fu + 1, I, v1, v2 =>
    if (I 50 0 0 0) ≤ v2 then (k2 I (v1 + (1 : Int32))) else ((f_X8_couple I v1 v2).bind fun y1 =>
    if v1 = v2 then (gd (inb y1 81) <|
    bnd (upd4 I 61 0 0 y1.toNatClampNeg (0 : Int32)) fun I3' =>
    (f_X8_tellFar_14 k2 fu) I3' v1 (v2 + (1 : Int32))) else ((f_X8_couple I v1 v2).bind fun y2 =>
    gd (inb y2 162) <|
    if (I 51 0 0 y2.toNatClampNeg) ≤ 0 then (gd (inb y1 81) <|
    bnd (upd4 I 61 0 0 y1.toNatClampNeg (100000 : Int32)) fun I1' =>
    (f_X8_tellFar_14 k2 fu) I1' v1 (v2 + (1 : Int32))) else ((f_X8_couple I v1 v2).bind fun y3 =>
    gd (inb y3 162) <|
    gd (inb y1 81) <|
    bnd (upd4 I 61 0 0 y1.toNatClampNeg (I 51 0 0 y3.toNatClampNeg)) fun I2' =>
    (f_X8_tellFar_14 k2 fu) I2' v1 (v2 + (1 : Int32)))))
theorem b_X8_tellFar_14 (X : CX) (Q : State → Prop) {P : PMem} {O : Nat → Int64} {D : Bool} {n : Nat} {k2 : Mem → Int32 → Option (Mem)} {r : (Mem)}  (H2 : ∀ (I : Mem) (v1 : Int32), k2 I v1 = some r → Here X cX8_tellFar RX8 4 (none) 3 n 2 [some (.inr (.inr (8, 0, 0))), some (.inl v1), none, none] [] I P O D n Q) : ∀ (fu : Nat) {I : Mem} {v1 : Int32} {v2 : Int32}, f_X8_tellFar_14 k2 fu I v1 v2 = some r → EndR X cX8_tellFar RX8 4 (none) 3 n none r P O D Q → Here X cX8_tellFar RX8 4 (none) 3 n 14 [some (.inr (.inr (8, 0, 0))), some (.inl v1), some (.inl v2), none] [] I P O D n Q := by
  intro fu
  induction fu with
  | zero => intro I v1 v2 h E; cases h
  | succ fu ih =>
  intro I v1 v2 h E
  have H14 : ∀ (I : Mem) (v1 : Int32) (v2 : Int32), f_X8_tellFar_14 k2 fu I v1 v2 = some r → Here X cX8_tellFar RX8 4 (none) 3 n 14 [some (.inr (.inr (8, 0, 0))), some (.inl v1), some (.inl v2), none] [] I P O D n Q := fun _ _ _ b => ih b E
  simp only [f_X8_tellFar_14] at h
  refine h_iload_n dX8_tellFar_14 rfl ?_
  refine h_aload_n dX8_tellFar_15 rfl ?_
  refine g_X8_34  dX8_tellFar_16 ?_
  refine h_iconst (0 : Int32) dX8_tellFar_19 k_iconst_0 ?_
  refine al_50  0 cl_0 dX8_tellFar_20 rfl ?_
  refine h_icmp_ge (tgt := 77) dX8_tellFar_21 (by decide) (fun q1 => ?_) (fun q1 => ?_)
  · rw [if_pos q1] at h
    refine h_iinc (1 : Int32) dX8_tellFar_77 rfl k_iinc_1 (by decide) rfl ?_
    refine h_goto (tgt := 2) dX8_tellFar_80 (by decide) ?_
    exact h_mask [true, true, false, false] (H2 _ _ h)
  · rw [if_neg q1] at h
    refine h_aload_n dX8_tellFar_24 rfl ?_
    refine g_X8_70  dX8_tellFar_25 ?_
    refine h_iload_n dX8_tellFar_28 rfl ?_
    refine h_iload_n dX8_tellFar_29 rfl ?_
    obtain ⟨y1, hh1, h⟩ := obd_some h
    refine h_cSi [.inl v1, .inl v2] (m_X8_couple  hh1) cs_X8_276 dX8_tellFar_30 rfl (by decide) rfl (Or.inr rfl) rfl ?_
    refine h_iload_n dX8_tellFar_33 rfl ?_
    refine h_iload_n dX8_tellFar_34 rfl ?_
    refine h_icmp_ne (tgt := 42) dX8_tellFar_35 (by decide) (fun q2 => ?_) (fun q2 => ?_)
    · rw [if_neg q2] at h
      refine h_aload_n dX8_tellFar_42 rfl ?_
      refine g_X8_38  dX8_tellFar_43 ?_
      refine h_iload_n dX8_tellFar_46 rfl ?_
      refine h_iload_n dX8_tellFar_47 rfl ?_
      obtain ⟨y2, hh2, h⟩ := obd_some h
      refine h_cSi [.inl v1, .inl v2] (m_X8_couple  hh2) cs_X8_276 dX8_tellFar_48 rfl (by decide) rfl (Or.inr rfl) rfl ?_
      obtain ⟨g1, h⟩ := gd_some h
      refine al_51  y2.toNatClampNeg rfl dX8_tellFar_51 g1 ?_
      refine h_if_le (tgt := 68) dX8_tellFar_52 (by decide) (fun q3 => ?_) (fun q3 => ?_)
      · rw [if_pos q3] at h
        refine h_ldci (100000 : Int32) dX8_tellFar_68 kc_X8_186 ?_
        obtain ⟨g2, h⟩ := gd_some h
        obtain ⟨I1', e1, h⟩ := bnd_some h
        refine as_61  y1.toNatClampNeg rfl dX8_tellFar_70 g2 ?_
        refine h_nmI e1 ?_
        refine h_iinc (1 : Int32) dX8_tellFar_71 rfl k_iinc_1 (by decide) rfl ?_
        refine h_goto (tgt := 14) dX8_tellFar_74 (by decide) ?_
        exact (H14 _ _ _ h)
      · rw [if_neg q3] at h
        refine h_aload_n dX8_tellFar_55 rfl ?_
        refine g_X8_38  dX8_tellFar_56 ?_
        refine h_iload_n dX8_tellFar_59 rfl ?_
        refine h_iload_n dX8_tellFar_60 rfl ?_
        obtain ⟨y3, hh3, h⟩ := obd_some h
        refine h_cSi [.inl v1, .inl v2] (m_X8_couple  hh3) cs_X8_276 dX8_tellFar_61 rfl (by decide) rfl (Or.inr rfl) rfl ?_
        obtain ⟨g3, h⟩ := gd_some h
        refine al_51  y3.toNatClampNeg rfl dX8_tellFar_64 g3 ?_
        refine h_goto (tgt := 70) dX8_tellFar_65 (by decide) ?_
        obtain ⟨g4, h⟩ := gd_some h
        obtain ⟨I2', e2, h⟩ := bnd_some h
        refine as_61  y1.toNatClampNeg rfl dX8_tellFar_70 g4 ?_
        refine h_nmI e2 ?_
        refine h_iinc (1 : Int32) dX8_tellFar_71 rfl k_iinc_1 (by decide) rfl ?_
        refine h_goto (tgt := 14) dX8_tellFar_74 (by decide) ?_
        exact (H14 _ _ _ h)
    · rw [if_pos q2] at h
      refine h_iconst (0 : Int32) dX8_tellFar_38 k_iconst_0 ?_
      refine h_goto (tgt := 70) dX8_tellFar_39 (by decide) ?_
      obtain ⟨g5, h⟩ := gd_some h
      obtain ⟨I3', e3, h⟩ := bnd_some h
      refine as_61  y1.toNatClampNeg rfl dX8_tellFar_70 g5 ?_
      refine h_nmI e3 ?_
      refine h_iinc (1 : Int32) dX8_tellFar_71 rfl k_iinc_1 (by decide) rfl ?_
      refine h_goto (tgt := 14) dX8_tellFar_74 (by decide) ?_
      exact (H14 _ _ _ h)
def f_X8_tellFar_2   : Nat → Mem → Int32 → Option (Mem)
  | 0, _, _ => none
  | fu + 1, I, v1 =>
    if (I 50 0 0 0) ≤ v1 then (f_X8_tellFar_85 FU I (0 : Int32)) else (f_X8_tellFar_14 (f_X8_tellFar_2 fu) FU I v1 (0 : Int32))
theorem b_X8_tellFar_2 (X : CX) (Q : State → Prop) {P : PMem} {O : Nat → Int64} {D : Bool} {n : Nat} {r : (Mem)}  : ∀ (fu : Nat) {I : Mem} {v1 : Int32}, f_X8_tellFar_2 fu I v1 = some r → EndR X cX8_tellFar RX8 4 (none) 3 n none r P O D Q → Here X cX8_tellFar RX8 4 (none) 3 n 2 [some (.inr (.inr (8, 0, 0))), some (.inl v1), none, none] [] I P O D n Q := by
  intro fu
  induction fu with
  | zero => intro I v1 h E; cases h
  | succ fu ih =>
  intro I v1 h E
  have H2 : ∀ (I : Mem) (v1 : Int32), f_X8_tellFar_2 fu I v1 = some r → Here X cX8_tellFar RX8 4 (none) 3 n 2 [some (.inr (.inr (8, 0, 0))), some (.inl v1), none, none] [] I P O D n Q := fun _ _ b => ih b E
  simp only [f_X8_tellFar_2] at h
  refine h_iload_n dX8_tellFar_2 rfl ?_
  refine h_aload_n dX8_tellFar_3 rfl ?_
  refine g_X8_34  dX8_tellFar_4 ?_
  refine h_iconst (0 : Int32) dX8_tellFar_7 k_iconst_0 ?_
  refine al_50  0 cl_0 dX8_tellFar_8 rfl ?_
  refine h_icmp_ge (tgt := 83) dX8_tellFar_9 (by decide) (fun q1 => ?_) (fun q1 => ?_)
  · rw [if_pos q1] at h
    refine h_iconst (0 : Int32) dX8_tellFar_83 k_iconst_0 ?_
    refine h_istore_n dX8_tellFar_84 (by decide) rfl ?_
    exact (b_X8_tellFar_85 X Q FU  h E)
  · rw [if_neg q1] at h
    refine h_iconst (0 : Int32) dX8_tellFar_12 k_iconst_0 ?_
    refine h_istore_n dX8_tellFar_13 (by decide) rfl ?_
    exact (b_X8_tellFar_14 X Q H2 FU  h E)
def f_X8_tellFar   (I : Mem) : Option (Mem) :=
  f_X8_tellFar_2 FU I (0 : Int32)
theorem b_X8_tellFar (X : CX) (Q : State → Prop) {I : Mem} {P : PMem} {O : Nat → Int64} {D : Bool} {n : Nat} {r : (Mem)}  (h : f_X8_tellFar I = some r) (E : EndR X cX8_tellFar RX8 4 (none) 3 n none r P O D Q) : Here X cX8_tellFar RX8 4 (none) 3 n 0 [some (.inr (.inr (8, 0, 0))), none, none, none] [] I P O D n Q := by
  unfold f_X8_tellFar at h
  refine h_iconst (0 : Int32) dX8_tellFar_0 k_iconst_0 ?_
  refine h_istore_n dX8_tellFar_1 (by decide) rfl ?_
  exact (b_X8_tellFar_2 X Q FU  h E)
theorem m_X8_tellFar {I : Mem} {P : PMem} {O : Nat → Int64} {D : Bool} {n : Nat}  {r : (Mem)}  (h : f_X8_tellFar I = some r) : MethR yX8_tellFar cX8_tellFar 4 (none) 3 [.inr (.inr (8, 0, 0))] I P O D n none r P O D n := meth_R (Nat.le_refl _) (by decide) rfl (Nat.le_of_ble_eq_true rfl) rfl (fun X Q E => b_X8_tellFar X Q  h E)
def f_X8_takeOver   (I : Mem) : Option (Mem) :=
  (f_X8_takeHalf 50 0 0 I).bind fun y1 =>
  (f_X8_takeHalf 51 0 0 y1).bind fun y2 =>
  (f_X8_takeHalf 52 0 0 y2).bind fun y3 =>
  (f_X8_takeHalf 53 0 0 y3).bind fun y4 =>
  (f_X8_takeHalf 54 0 0 y4).bind fun y5 =>
  (f_X8_takeHalf 55 0 0 y5).bind fun y6 =>
  (f_X8_takeHalf 56 0 0 y6).bind fun y7 =>
  (f_X8_takeHalf 57 0 0 y7).bind fun y8 =>
  (f_X8_takeHalf 58 0 0 y8).bind fun y9 =>
  bnd (upd4 y9 8 0 0 29 (y9 50 0 0 1)) fun I1' =>
  bnd (upd4 I1' 8 0 0 30 (0 : Int32)) fun I2' =>
  bnd (upd4 I2' 8 0 0 31 (0 : Int32)) fun I3' =>
  bnd (upd4 I3' 8 0 0 32 (0 : Int32)) fun I4' =>
  bnd (upd4 I4' 8 0 0 33 (0 : Int32)) fun I5' =>
  bnd (upd4 I5' 8 0 0 34 (0 : Int32)) fun I6' =>
  bnd (upd4 I6' 8 0 0 54 (0 : Int32)) fun I7' =>
  (f_X8_tellFar I7').bind fun y10 =>
  some y10
theorem b_X8_takeOver (X : CX) (Q : State → Prop) {I : Mem} {P : PMem} {O : Nat → Int64} {D : Bool} {n : Nat} {r : (Mem)}  (h : f_X8_takeOver I = some r) (E : EndR X cX8_takeOver RX8 1 (none) 4 n none r P O D Q) : Here X cX8_takeOver RX8 1 (none) 4 n 0 [some (.inr (.inr (8, 0, 0)))] [] I P O D n Q := by
  unfold f_X8_takeOver at h
  refine h_aload_n dX8_takeOver_0 rfl ?_
  refine g_X8_34  dX8_takeOver_1 ?_
  obtain ⟨y1, hh1, h⟩ := obd_some h
  refine h_cSv [.inr (.inr (50, 0, 0))] (m_X8_takeHalf rfl hh1) cs_X8_307 dX8_takeOver_4 rfl (by decide) rfl (Or.inr rfl) rfl ?_
  refine h_aload_n dX8_takeOver_7 rfl ?_
  refine g_X8_38  dX8_takeOver_8 ?_
  obtain ⟨y2, hh2, h⟩ := obd_some h
  refine h_cSv [.inr (.inr (51, 0, 0))] (m_X8_takeHalf rfl hh2) cs_X8_307 dX8_takeOver_11 rfl (by decide) rfl (Or.inr rfl) rfl ?_
  refine h_aload_n dX8_takeOver_14 rfl ?_
  refine g_X8_41  dX8_takeOver_15 ?_
  obtain ⟨y3, hh3, h⟩ := obd_some h
  refine h_cSv [.inr (.inr (52, 0, 0))] (m_X8_takeHalf rfl hh3) cs_X8_307 dX8_takeOver_18 rfl (by decide) rfl (Or.inr rfl) rfl ?_
  refine h_aload_n dX8_takeOver_21 rfl ?_
  refine g_X8_44  dX8_takeOver_22 ?_
  obtain ⟨y4, hh4, h⟩ := obd_some h
  refine h_cSv [.inr (.inr (53, 0, 0))] (m_X8_takeHalf rfl hh4) cs_X8_307 dX8_takeOver_25 rfl (by decide) rfl (Or.inr rfl) rfl ?_
  refine h_aload_n dX8_takeOver_28 rfl ?_
  refine g_X8_47  dX8_takeOver_29 ?_
  obtain ⟨y5, hh5, h⟩ := obd_some h
  refine h_cSv [.inr (.inr (54, 0, 0))] (m_X8_takeHalf rfl hh5) cs_X8_307 dX8_takeOver_32 rfl (by decide) rfl (Or.inr rfl) rfl ?_
  refine h_aload_n dX8_takeOver_35 rfl ?_
  refine g_X8_49  dX8_takeOver_36 ?_
  obtain ⟨y6, hh6, h⟩ := obd_some h
  refine h_cSv [.inr (.inr (55, 0, 0))] (m_X8_takeHalf rfl hh6) cs_X8_307 dX8_takeOver_39 rfl (by decide) rfl (Or.inr rfl) rfl ?_
  refine h_aload_n dX8_takeOver_42 rfl ?_
  refine g_X8_52  dX8_takeOver_43 ?_
  obtain ⟨y7, hh7, h⟩ := obd_some h
  refine h_cSv [.inr (.inr (56, 0, 0))] (m_X8_takeHalf rfl hh7) cs_X8_307 dX8_takeOver_46 rfl (by decide) rfl (Or.inr rfl) rfl ?_
  refine h_aload_n dX8_takeOver_49 rfl ?_
  refine g_X8_55  dX8_takeOver_50 ?_
  obtain ⟨y8, hh8, h⟩ := obd_some h
  refine h_cSv [.inr (.inr (57, 0, 0))] (m_X8_takeHalf rfl hh8) cs_X8_307 dX8_takeOver_53 rfl (by decide) rfl (Or.inr rfl) rfl ?_
  refine h_aload_n dX8_takeOver_56 rfl ?_
  refine g_X8_57  dX8_takeOver_57 ?_
  obtain ⟨y9, hh9, h⟩ := obd_some h
  refine h_cSv [.inr (.inr (58, 0, 0))] (m_X8_takeHalf rfl hh9) cs_X8_307 dX8_takeOver_60 rfl (by decide) rfl (Or.inr rfl) rfl ?_
  refine h_aload_n dX8_takeOver_63 rfl ?_
  refine h_aload_n dX8_takeOver_64 rfl ?_
  refine g_X8_34  dX8_takeOver_65 ?_
  refine h_iconst (1 : Int32) dX8_takeOver_68 k_iconst_1 ?_
  refine al_50  1 cl_1 dX8_takeOver_69 rfl ?_
  obtain ⟨I1', e1, h⟩ := bnd_some h
  refine p_X8_311  dX8_takeOver_70 ?_
  refine h_nmI e1 ?_
  refine h_aload_n dX8_takeOver_73 rfl ?_
  refine h_iconst (0 : Int32) dX8_takeOver_74 k_iconst_0 ?_
  obtain ⟨I2', e2, h⟩ := bnd_some h
  refine p_X8_314  dX8_takeOver_75 ?_
  refine h_nmI e2 ?_
  refine h_aload_n dX8_takeOver_78 rfl ?_
  refine h_iconst (0 : Int32) dX8_takeOver_79 k_iconst_0 ?_
  obtain ⟨I3', e3, h⟩ := bnd_some h
  refine p_X8_317  dX8_takeOver_80 ?_
  refine h_nmI e3 ?_
  refine h_aload_n dX8_takeOver_83 rfl ?_
  refine h_iconst (0 : Int32) dX8_takeOver_84 k_iconst_0 ?_
  obtain ⟨I4', e4, h⟩ := bnd_some h
  refine p_X8_320  dX8_takeOver_85 ?_
  refine h_nmI e4 ?_
  refine h_aload_n dX8_takeOver_88 rfl ?_
  refine h_iconst (0 : Int32) dX8_takeOver_89 k_iconst_0 ?_
  obtain ⟨I5', e5, h⟩ := bnd_some h
  refine p_X8_323  dX8_takeOver_90 ?_
  refine h_nmI e5 ?_
  refine h_aload_n dX8_takeOver_93 rfl ?_
  refine h_iconst (0 : Int32) dX8_takeOver_94 k_iconst_0 ?_
  obtain ⟨I6', e6, h⟩ := bnd_some h
  refine p_X8_326  dX8_takeOver_95 ?_
  refine h_nmI e6 ?_
  refine h_aload_n dX8_takeOver_98 rfl ?_
  refine h_iconst (0 : Int32) dX8_takeOver_99 k_iconst_0 ?_
  obtain ⟨I7', e7, h⟩ := bnd_some h
  refine p_X8_329  rfl dX8_takeOver_100 ?_
  refine h_nmI e7 ?_
  refine h_aload_n dX8_takeOver_103 rfl ?_
  obtain ⟨y10, hh10, h⟩ := obd_some h
  refine h_cVv [] (m_X8_tellFar  hh10) cw_X8_333 dX8_takeOver_104 rfl ok_8 (by decide) rfl (Or.inr rfl) rfl ?_
  cases h
  exact h_vret dX8_takeOver_107 rfl E
theorem m_X8_takeOver {I : Mem} {P : PMem} {O : Nat → Int64} {D : Bool} {n : Nat}  {r : (Mem)}  (h : f_X8_takeOver I = some r) : MethR yX8_takeOver cX8_takeOver 1 (none) 4 [.inr (.inr (8, 0, 0))] I P O D n none r P O D n := meth_R (Nat.le_refl _) (by decide) rfl (Nat.le_of_ble_eq_true rfl) rfl (fun X Q E => b_X8_takeOver X Q  h E)
def f_X8_land_135   (I : Mem) : Option ((Int32 × Mem) ⊕ Nat) :=
  if (I 8 0 0 21) = 0 then ((f_X8_takeOver I).bind fun y1 =>
  some (Sum.inl ((0 : Int32), y1))) else (bnd (upd4 I 8 0 0 23 (I 8 0 0 22)) fun I1' =>
  bnd (upd4 I1' 59 0 0 0 ((I1' 59 0 0 0) + (1 : Int32))) fun I2' =>
  some (Sum.inl ((I2' 8 0 0 21), I2')))
theorem b_X8_land_135 (X : CX) (Q : State → Prop) {I : Mem} {P : PMem} {O : Nat → Int64} {D : Bool} {n : Nat} {r : (Int32 × Mem)}  (h : f_X8_land_135 I = some (Sum.inl r)) (E : EndR X cX8_land RX8 3 (some .int) 162 n (some (.inl r.1)) r.2 P O D Q) : Here X cX8_land RX8 3 (some .int) 162 n 135 [some (.inr (.inr (8, 0, 0))), none, none] [] I P O D n Q := by
  unfold f_X8_land_135 at h
  refine h_aload_n dX8_land_135 rfl ?_
  refine g_X8_199  dX8_land_136 ?_
  refine h_if_eq (tgt := 165) dX8_land_139 (by decide) (fun q1 => ?_) (fun q1 => ?_)
  · rw [if_pos q1] at h
    refine h_aload_n dX8_land_165 rfl ?_
    obtain ⟨y1, hh1, h⟩ := obd_some h
    refine h_cVv [] (m_X8_takeOver  hh1) cw_X8_304 dX8_land_166 rfl ok_8 (by decide) rfl (Or.inr rfl) rfl ?_
    refine h_iconst (0 : Int32) dX8_land_169 k_iconst_0 ?_
    cases h
    exact h_iret dX8_land_170 rfl E
  · rw [if_neg q1] at h
    refine h_aload_n dX8_land_142 rfl ?_
    refine h_aload_n dX8_land_143 rfl ?_
    refine g_X8_202  dX8_land_144 ?_
    obtain ⟨I1', e1, h⟩ := bnd_some h
    refine p_X8_66  dX8_land_147 ?_
    refine h_nmI e1 ?_
    refine h_aload_n dX8_land_150 rfl ?_
    refine g_X8_60  dX8_land_151 ?_
    refine h_iconst (0 : Int32) dX8_land_154 k_iconst_0 ?_
    refine h_dup2 dX8_land_155 (fun _ => rfl) (fun _ => rfl) ?_
    refine al_59  0 cl_0 dX8_land_156 rfl ?_
    refine h_iconst (1 : Int32) dX8_land_157 k_iconst_1 ?_
    refine h_iadd dX8_land_158 ?_
    obtain ⟨I2', e2, h⟩ := bnd_some h
    refine as_59  0 cl_0 dX8_land_159 rfl ?_
    refine h_nmI e2 ?_
    refine h_aload_n dX8_land_160 rfl ?_
    refine g_X8_199  dX8_land_161 ?_
    cases h
    exact h_iret dX8_land_164 rfl E
theorem bx_X8_land_135 (X : CX) (Q : State → Prop) {I : Mem} {P : PMem} {O : Nat → Int64} {D : Bool} {n : Nat} {r : Nat}  (h : f_X8_land_135 I = some (Sum.inr r)) (E : EndX X cX8_land RX8 3 (some .int) 162 (n + 1) r I P O D Q) : Here X cX8_land RX8 3 (some .int) 162 (n + 1) 135 [some (.inr (.inr (8, 0, 0))), none, none] [] I P O D n Q := by
  unfold f_X8_land_135 at h
  refine h_aload_n dX8_land_135 rfl ?_
  refine g_X8_199  dX8_land_136 ?_
  refine h_if_eq (tgt := 165) dX8_land_139 (by decide) (fun q1 => ?_) (fun q1 => ?_)
  · rw [if_pos q1] at h
    refine h_aload_n dX8_land_165 rfl ?_
    obtain ⟨y1, hh1, h⟩ := obd_some h
    refine h_cVv [] (m_X8_takeOver  hh1) cw_X8_304 dX8_land_166 rfl ok_8 (by decide) rfl (Or.inr rfl) rfl ?_
    refine h_iconst (0 : Int32) dX8_land_169 k_iconst_0 ?_
    cases h
  · rw [if_neg q1] at h
    refine h_aload_n dX8_land_142 rfl ?_
    refine h_aload_n dX8_land_143 rfl ?_
    refine g_X8_202  dX8_land_144 ?_
    obtain ⟨I1', e1, h⟩ := bnd_some h
    refine p_X8_66  dX8_land_147 ?_
    refine h_nmI e1 ?_
    refine h_aload_n dX8_land_150 rfl ?_
    refine g_X8_60  dX8_land_151 ?_
    refine h_iconst (0 : Int32) dX8_land_154 k_iconst_0 ?_
    refine h_dup2 dX8_land_155 (fun _ => rfl) (fun _ => rfl) ?_
    refine al_59  0 cl_0 dX8_land_156 rfl ?_
    refine h_iconst (1 : Int32) dX8_land_157 k_iconst_1 ?_
    refine h_iadd dX8_land_158 ?_
    obtain ⟨I2', e2, h⟩ := bnd_some h
    refine as_59  0 cl_0 dX8_land_159 rfl ?_
    refine h_nmI e2 ?_
    refine h_aload_n dX8_land_160 rfl ?_
    refine g_X8_199  dX8_land_161 ?_
    cases h
def f_X8_land_112   : Nat → Mem → Int32 → Option ((Int32 × Mem) ⊕ Nat)
  | 0, _, _ => none
  | fu + 1, I, v2 =>
    if (I 8 0 0 21) = 0 then (if (I 8 0 0 17) = 0 then (f_X8_land_135 I) else (thb (f_X8_readLine I v2) fun y1 =>
    (f_X8_land_112 fu) y1.2 y1.1)) else (f_X8_land_135 I)
theorem b_X8_land_112 (X : CX) (Q : State → Prop) {P : PMem} {O : Nat → Int64} {D : Bool} {n : Nat} {r : (Int32 × Mem)}  : ∀ (fu : Nat) {I : Mem} {v2 : Int32}, f_X8_land_112 fu I v2 = some (Sum.inl r) → EndR X cX8_land RX8 3 (some .int) 162 n (some (.inl r.1)) r.2 P O D Q → Here X cX8_land RX8 3 (some .int) 162 n 112 [some (.inr (.inr (8, 0, 0))), none, some (.inl v2)] [] I P O D n Q := by
  intro fu
  induction fu with
  | zero => intro I v2 h E; cases h
  | succ fu ih =>
  intro I v2 h E
  have H112 : ∀ (I : Mem) (v2 : Int32), f_X8_land_112 fu I v2 = some (Sum.inl r) → Here X cX8_land RX8 3 (some .int) 162 n 112 [some (.inr (.inr (8, 0, 0))), none, some (.inl v2)] [] I P O D n Q := fun _ _ b => ih b E
  simp only [f_X8_land_112] at h
  refine h_aload_n dX8_land_112 rfl ?_
  refine g_X8_199  dX8_land_113 ?_
  refine h_if_ne (tgt := 135) dX8_land_116 (by decide) (fun q1 => ?_) (fun q1 => ?_)
  · rw [if_neg q1] at h
    exact h_mask [true, false, false] (b_X8_land_135 X Q  h E)
  · rw [if_pos q1] at h
    refine h_aload_n dX8_land_119 rfl ?_
    refine g_X8_173  dX8_land_120 ?_
    refine h_if_eq (tgt := 135) dX8_land_123 (by decide) (fun q2 => ?_) (fun q2 => ?_)
    · rw [if_pos q2] at h
      exact h_mask [true, false, false] (b_X8_land_135 X Q  h E)
    · rw [if_neg q2] at h
      refine h_aload_n dX8_land_126 rfl ?_
      refine h_iload_n dX8_land_127 rfl ?_
      obtain ⟨y1, hh1, h⟩ := thb_R h
      refine h_cVi [.inl v2] (m_X8_readLine  hh1) cw_X8_301 dX8_land_128 rfl ok_8 (by decide) rfl (Or.inr rfl) rfl ?_
      refine h_istore_n dX8_land_131 (by decide) rfl ?_
      refine h_goto (tgt := 112) dX8_land_132 (by decide) ?_
      exact (H112 _ _ h)
theorem bx_X8_land_112 (X : CX) (Q : State → Prop) {P : PMem} {O : Nat → Int64} {D : Bool} {n : Nat} {r : Nat}  : ∀ (fu : Nat) {I : Mem} {v2 : Int32}, f_X8_land_112 fu I v2 = some (Sum.inr r) → EndX X cX8_land RX8 3 (some .int) 162 (n + 1) r I P O D Q → Here X cX8_land RX8 3 (some .int) 162 (n + 1) 112 [some (.inr (.inr (8, 0, 0))), none, some (.inl v2)] [] I P O D n Q := by
  intro fu
  induction fu with
  | zero => intro I v2 h E; cases h
  | succ fu ih =>
  intro I v2 h E
  have H112 : ∀ (I : Mem) (v2 : Int32), f_X8_land_112 fu I v2 = some (Sum.inr r) → Here X cX8_land RX8 3 (some .int) 162 (n + 1) 112 [some (.inr (.inr (8, 0, 0))), none, some (.inl v2)] [] I P O D n Q := fun _ _ b => ih b E
  simp only [f_X8_land_112] at h
  refine h_aload_n dX8_land_112 rfl ?_
  refine g_X8_199  dX8_land_113 ?_
  refine h_if_ne (tgt := 135) dX8_land_116 (by decide) (fun q1 => ?_) (fun q1 => ?_)
  · rw [if_neg q1] at h
    exact h_mask [true, false, false] (bx_X8_land_135 X Q  h E)
  · rw [if_pos q1] at h
    refine h_aload_n dX8_land_119 rfl ?_
    refine g_X8_173  dX8_land_120 ?_
    refine h_if_eq (tgt := 135) dX8_land_123 (by decide) (fun q2 => ?_) (fun q2 => ?_)
    · rw [if_pos q2] at h
      exact h_mask [true, false, false] (bx_X8_land_135 X Q  h E)
    · rw [if_neg q2] at h
      refine h_aload_n dX8_land_126 rfl ?_
      refine h_iload_n dX8_land_127 rfl ?_
      rcases thb_X h with hh1 | ⟨y1, hh1, h⟩
      · exact h_callVX (as := [.inl v2]) (mx_X8_readLine  hh1) cw_X8_301 dX8_land_128 rfl ok_8 (by decide) rfl rfl E
      refine h_cVi [.inl v2] (m_X8_readLine  hh1) cw_X8_301 dX8_land_128 rfl ok_8 (by decide) rfl (Or.inr rfl) rfl ?_
      refine h_istore_n dX8_land_131 (by decide) rfl ?_
      refine h_goto (tgt := 112) dX8_land_132 (by decide) ?_
      exact (H112 _ _ h)
def f_X8_land_84   : Nat → Mem → Int32 → Option ((Int32 × Mem) ⊕ Nat)
  | 0, _, _ => none
  | fu + 1, I, v2 =>
    if (81 : Int32) ≤ v2 then ((f_X8_stepOn I).bind fun y1 =>
    f_X8_land_112 FU y1 (0 : Int32)) else (gd (inb ((81 : Int32) + v2) 162) <|
    bnd (upd4 I 51 0 0 (((81 : Int32) + v2).toNatClampNeg) (0 : Int32)) fun I1' =>
    (f_X8_land_84 fu) I1' (v2 + (1 : Int32)))
theorem b_X8_land_84 (X : CX) (Q : State → Prop) {P : PMem} {O : Nat → Int64} {D : Bool} {n : Nat} {r : (Int32 × Mem)}  : ∀ (fu : Nat) {I : Mem} {v2 : Int32}, f_X8_land_84 fu I v2 = some (Sum.inl r) → EndR X cX8_land RX8 3 (some .int) 162 n (some (.inl r.1)) r.2 P O D Q → Here X cX8_land RX8 3 (some .int) 162 n 84 [some (.inr (.inr (8, 0, 0))), none, some (.inl v2)] [] I P O D n Q := by
  intro fu
  induction fu with
  | zero => intro I v2 h E; cases h
  | succ fu ih =>
  intro I v2 h E
  have H84 : ∀ (I : Mem) (v2 : Int32), f_X8_land_84 fu I v2 = some (Sum.inl r) → Here X cX8_land RX8 3 (some .int) 162 n 84 [some (.inr (.inr (8, 0, 0))), none, some (.inl v2)] [] I P O D n Q := fun _ _ b => ih b E
  simp only [f_X8_land_84] at h
  refine h_iload_n dX8_land_84 rfl ?_
  refine h_bipush (81 : Int32) dX8_land_85 k_bipush_81 ?_
  refine h_icmp_ge (tgt := 106) dX8_land_87 (by decide) (fun q1 => ?_) (fun q1 => ?_)
  · rw [if_pos q1] at h
    refine h_aload_n dX8_land_106 rfl ?_
    obtain ⟨y1, hh1, h⟩ := obd_some h
    refine h_cVv [] (m_X8_stepOn  hh1) cw_X8_224 dX8_land_107 rfl ok_8 (by decide) rfl (Or.inr rfl) rfl ?_
    refine h_iconst (0 : Int32) dX8_land_110 k_iconst_0 ?_
    refine h_istore_n dX8_land_111 (by decide) rfl ?_
    exact (b_X8_land_112 X Q FU  h E)
  · rw [if_neg q1] at h
    refine h_aload_n dX8_land_90 rfl ?_
    refine g_X8_38  dX8_land_91 ?_
    refine h_bipush (81 : Int32) dX8_land_94 k_bipush_81 ?_
    refine h_iload_n dX8_land_96 rfl ?_
    refine h_iadd dX8_land_97 ?_
    refine h_iconst (0 : Int32) dX8_land_98 k_iconst_0 ?_
    obtain ⟨g1, h⟩ := gd_some h
    obtain ⟨I1', e1, h⟩ := bnd_some h
    refine as_51  (((81 : Int32) + v2).toNatClampNeg) rfl dX8_land_99 g1 ?_
    refine h_nmI e1 ?_
    refine h_iinc (1 : Int32) dX8_land_100 rfl k_iinc_1 (by decide) rfl ?_
    refine h_goto (tgt := 84) dX8_land_103 (by decide) ?_
    exact (H84 _ _ h)
theorem bx_X8_land_84 (X : CX) (Q : State → Prop) {P : PMem} {O : Nat → Int64} {D : Bool} {n : Nat} {r : Nat}  : ∀ (fu : Nat) {I : Mem} {v2 : Int32}, f_X8_land_84 fu I v2 = some (Sum.inr r) → EndX X cX8_land RX8 3 (some .int) 162 (n + 1) r I P O D Q → Here X cX8_land RX8 3 (some .int) 162 (n + 1) 84 [some (.inr (.inr (8, 0, 0))), none, some (.inl v2)] [] I P O D n Q := by
  intro fu
  induction fu with
  | zero => intro I v2 h E; cases h
  | succ fu ih =>
  intro I v2 h E
  have H84 : ∀ (I : Mem) (v2 : Int32), f_X8_land_84 fu I v2 = some (Sum.inr r) → Here X cX8_land RX8 3 (some .int) 162 (n + 1) 84 [some (.inr (.inr (8, 0, 0))), none, some (.inl v2)] [] I P O D n Q := fun _ _ b => ih b E
  simp only [f_X8_land_84] at h
  refine h_iload_n dX8_land_84 rfl ?_
  refine h_bipush (81 : Int32) dX8_land_85 k_bipush_81 ?_
  refine h_icmp_ge (tgt := 106) dX8_land_87 (by decide) (fun q1 => ?_) (fun q1 => ?_)
  · rw [if_pos q1] at h
    refine h_aload_n dX8_land_106 rfl ?_
    obtain ⟨y1, hh1, h⟩ := obd_some h
    refine h_cVv [] (m_X8_stepOn  hh1) cw_X8_224 dX8_land_107 rfl ok_8 (by decide) rfl (Or.inr rfl) rfl ?_
    refine h_iconst (0 : Int32) dX8_land_110 k_iconst_0 ?_
    refine h_istore_n dX8_land_111 (by decide) rfl ?_
    exact (bx_X8_land_112 X Q FU  h E)
  · rw [if_neg q1] at h
    refine h_aload_n dX8_land_90 rfl ?_
    refine g_X8_38  dX8_land_91 ?_
    refine h_bipush (81 : Int32) dX8_land_94 k_bipush_81 ?_
    refine h_iload_n dX8_land_96 rfl ?_
    refine h_iadd dX8_land_97 ?_
    refine h_iconst (0 : Int32) dX8_land_98 k_iconst_0 ?_
    obtain ⟨g1, h⟩ := gd_some h
    obtain ⟨I1', e1, h⟩ := bnd_some h
    refine as_51  (((81 : Int32) + v2).toNatClampNeg) rfl dX8_land_99 g1 ?_
    refine h_nmI e1 ?_
    refine h_iinc (1 : Int32) dX8_land_100 rfl k_iinc_1 (by decide) rfl ?_
    refine h_goto (tgt := 84) dX8_land_103 (by decide) ?_
    exact (H84 _ _ h)
def f_X8_land_50   : Nat → Mem → Int32 → Option ((Int32 × Mem) ⊕ Nat)
  | 0, _, _ => none
  | fu + 1, I, v2 =>
    if (7 : Int32) ≤ v2 then (f_X8_land_84 FU I (0 : Int32)) else (if v2 = (3 : Int32) then (gd (inb ((7 : Int32) + v2) 14) <|
    bnd (upd4 I 50 0 0 (((7 : Int32) + v2).toNatClampNeg) (10 : Int32)) fun I2' =>
    (f_X8_land_50 fu) I2' (v2 + (1 : Int32))) else (gd (inb ((7 : Int32) + v2) 14) <|
    bnd (upd4 I 50 0 0 (((7 : Int32) + v2).toNatClampNeg) (0 : Int32)) fun I1' =>
    (f_X8_land_50 fu) I1' (v2 + (1 : Int32))))
theorem b_X8_land_50 (X : CX) (Q : State → Prop) {P : PMem} {O : Nat → Int64} {D : Bool} {n : Nat} {r : (Int32 × Mem)}  : ∀ (fu : Nat) {I : Mem} {v2 : Int32}, f_X8_land_50 fu I v2 = some (Sum.inl r) → EndR X cX8_land RX8 3 (some .int) 162 n (some (.inl r.1)) r.2 P O D Q → Here X cX8_land RX8 3 (some .int) 162 n 50 [some (.inr (.inr (8, 0, 0))), none, some (.inl v2)] [] I P O D n Q := by
  intro fu
  induction fu with
  | zero => intro I v2 h E; cases h
  | succ fu ih =>
  intro I v2 h E
  have H50 : ∀ (I : Mem) (v2 : Int32), f_X8_land_50 fu I v2 = some (Sum.inl r) → Here X cX8_land RX8 3 (some .int) 162 n 50 [some (.inr (.inr (8, 0, 0))), none, some (.inl v2)] [] I P O D n Q := fun _ _ b => ih b E
  simp only [f_X8_land_50] at h
  refine h_iload_n dX8_land_50 rfl ?_
  refine h_bipush (7 : Int32) dX8_land_51 k_bipush_7 ?_
  refine h_icmp_ge (tgt := 82) dX8_land_53 (by decide) (fun q1 => ?_) (fun q1 => ?_)
  · rw [if_pos q1] at h
    refine h_iconst (0 : Int32) dX8_land_82 k_iconst_0 ?_
    refine h_istore_n dX8_land_83 (by decide) rfl ?_
    exact (b_X8_land_84 X Q FU  h E)
  · rw [if_neg q1] at h
    refine h_aload_n dX8_land_56 rfl ?_
    refine g_X8_34  dX8_land_57 ?_
    refine h_bipush (7 : Int32) dX8_land_60 k_bipush_7 ?_
    refine h_iload_n dX8_land_62 rfl ?_
    refine h_iadd dX8_land_63 ?_
    refine h_iload_n dX8_land_64 rfl ?_
    refine h_iconst (3 : Int32) dX8_land_65 k_iconst_3 ?_
    refine h_icmp_ne (tgt := 74) dX8_land_66 (by decide) (fun q2 => ?_) (fun q2 => ?_)
    · rw [if_neg q2] at h
      refine h_iconst (0 : Int32) dX8_land_74 k_iconst_0 ?_
      obtain ⟨g1, h⟩ := gd_some h
      obtain ⟨I1', e1, h⟩ := bnd_some h
      refine as_50  (((7 : Int32) + v2).toNatClampNeg) rfl dX8_land_75 g1 ?_
      refine h_nmI e1 ?_
      refine h_iinc (1 : Int32) dX8_land_76 rfl k_iinc_1 (by decide) rfl ?_
      refine h_goto (tgt := 50) dX8_land_79 (by decide) ?_
      exact (H50 _ _ h)
    · rw [if_pos q2] at h
      refine h_bipush (10 : Int32) dX8_land_69 k_bipush_10 ?_
      refine h_goto (tgt := 75) dX8_land_71 (by decide) ?_
      obtain ⟨g2, h⟩ := gd_some h
      obtain ⟨I2', e2, h⟩ := bnd_some h
      refine as_50  (((7 : Int32) + v2).toNatClampNeg) rfl dX8_land_75 g2 ?_
      refine h_nmI e2 ?_
      refine h_iinc (1 : Int32) dX8_land_76 rfl k_iinc_1 (by decide) rfl ?_
      refine h_goto (tgt := 50) dX8_land_79 (by decide) ?_
      exact (H50 _ _ h)
theorem bx_X8_land_50 (X : CX) (Q : State → Prop) {P : PMem} {O : Nat → Int64} {D : Bool} {n : Nat} {r : Nat}  : ∀ (fu : Nat) {I : Mem} {v2 : Int32}, f_X8_land_50 fu I v2 = some (Sum.inr r) → EndX X cX8_land RX8 3 (some .int) 162 (n + 1) r I P O D Q → Here X cX8_land RX8 3 (some .int) 162 (n + 1) 50 [some (.inr (.inr (8, 0, 0))), none, some (.inl v2)] [] I P O D n Q := by
  intro fu
  induction fu with
  | zero => intro I v2 h E; cases h
  | succ fu ih =>
  intro I v2 h E
  have H50 : ∀ (I : Mem) (v2 : Int32), f_X8_land_50 fu I v2 = some (Sum.inr r) → Here X cX8_land RX8 3 (some .int) 162 (n + 1) 50 [some (.inr (.inr (8, 0, 0))), none, some (.inl v2)] [] I P O D n Q := fun _ _ b => ih b E
  simp only [f_X8_land_50] at h
  refine h_iload_n dX8_land_50 rfl ?_
  refine h_bipush (7 : Int32) dX8_land_51 k_bipush_7 ?_
  refine h_icmp_ge (tgt := 82) dX8_land_53 (by decide) (fun q1 => ?_) (fun q1 => ?_)
  · rw [if_pos q1] at h
    refine h_iconst (0 : Int32) dX8_land_82 k_iconst_0 ?_
    refine h_istore_n dX8_land_83 (by decide) rfl ?_
    exact (bx_X8_land_84 X Q FU  h E)
  · rw [if_neg q1] at h
    refine h_aload_n dX8_land_56 rfl ?_
    refine g_X8_34  dX8_land_57 ?_
    refine h_bipush (7 : Int32) dX8_land_60 k_bipush_7 ?_
    refine h_iload_n dX8_land_62 rfl ?_
    refine h_iadd dX8_land_63 ?_
    refine h_iload_n dX8_land_64 rfl ?_
    refine h_iconst (3 : Int32) dX8_land_65 k_iconst_3 ?_
    refine h_icmp_ne (tgt := 74) dX8_land_66 (by decide) (fun q2 => ?_) (fun q2 => ?_)
    · rw [if_neg q2] at h
      refine h_iconst (0 : Int32) dX8_land_74 k_iconst_0 ?_
      obtain ⟨g1, h⟩ := gd_some h
      obtain ⟨I1', e1, h⟩ := bnd_some h
      refine as_50  (((7 : Int32) + v2).toNatClampNeg) rfl dX8_land_75 g1 ?_
      refine h_nmI e1 ?_
      refine h_iinc (1 : Int32) dX8_land_76 rfl k_iinc_1 (by decide) rfl ?_
      refine h_goto (tgt := 50) dX8_land_79 (by decide) ?_
      exact (H50 _ _ h)
    · rw [if_pos q2] at h
      refine h_bipush (10 : Int32) dX8_land_69 k_bipush_10 ?_
      refine h_goto (tgt := 75) dX8_land_71 (by decide) ?_
      obtain ⟨g2, h⟩ := gd_some h
      obtain ⟨I2', e2, h⟩ := bnd_some h
      refine as_50  (((7 : Int32) + v2).toNatClampNeg) rfl dX8_land_75 g2 ?_
      refine h_nmI e2 ?_
      refine h_iinc (1 : Int32) dX8_land_76 rfl k_iinc_1 (by decide) rfl ?_
      refine h_goto (tgt := 50) dX8_land_79 (by decide) ?_
      exact (H50 _ _ h)
def f_X8_land_17   (I : Mem) : Option ((Int32 × Mem) ⊕ Nat) :=
  (f_X8_fail I (1 : Int32)).bind fun y1 =>
  some (Sum.inl (y1.1, y1.2))
theorem b_X8_land_17 (X : CX) (Q : State → Prop) {I : Mem} {P : PMem} {O : Nat → Int64} {D : Bool} {n : Nat} {r : (Int32 × Mem)}  (h : f_X8_land_17 I = some (Sum.inl r)) (E : EndR X cX8_land RX8 3 (some .int) 162 n (some (.inl r.1)) r.2 P O D Q) : Here X cX8_land RX8 3 (some .int) 162 n 17 [some (.inr (.inr (8, 0, 0))), none, none] [] I P O D n Q := by
  unfold f_X8_land_17 at h
  refine h_aload_n dX8_land_17 rfl ?_
  refine h_iconst (1 : Int32) dX8_land_18 k_iconst_1 ?_
  obtain ⟨y1, hh1, h⟩ := obd_some h
  refine h_cVi [.inl (1 : Int32)] (m_X8_fail  hh1) cw_X8_298 dX8_land_19 rfl ok_8 (by decide) rfl (Or.inr rfl) rfl ?_
  cases h
  exact h_iret dX8_land_22 rfl E
theorem bx_X8_land_17 (X : CX) (Q : State → Prop) {I : Mem} {P : PMem} {O : Nat → Int64} {D : Bool} {n : Nat} {r : Nat}  (h : f_X8_land_17 I = some (Sum.inr r)) (E : EndX X cX8_land RX8 3 (some .int) 162 (n + 1) r I P O D Q) : Here X cX8_land RX8 3 (some .int) 162 (n + 1) 17 [some (.inr (.inr (8, 0, 0))), none, none] [] I P O D n Q := by
  unfold f_X8_land_17 at h
  refine h_aload_n dX8_land_17 rfl ?_
  refine h_iconst (1 : Int32) dX8_land_18 k_iconst_1 ?_
  obtain ⟨y1, hh1, h⟩ := obd_some h
  refine h_cVi [.inl (1 : Int32)] (m_X8_fail  hh1) cw_X8_298 dX8_land_19 rfl ok_8 (by decide) rfl (Or.inr rfl) rfl ?_
  cases h
def f_X8_land   (I : Mem) (v1 : Int32) : Option ((Int32 × Mem) ⊕ Nat) :=
  bnd (upd4 I 8 0 0 2 (0 : Int32)) fun I1' =>
  if v1 < 0 then (f_X8_land_17 I1') else (if v1 ≤ (I1' 8 0 0 14) then (bnd (upd4 I1' 8 0 0 14 (0 : Int32)) fun I2' =>
  bnd (upd4 I2' 8 0 0 16 v1) fun I3' =>
  bnd (upd4 I3' 8 0 0 15 (0 : Int32)) fun I4' =>
  bnd (upd4 I4' 8 0 0 21 (0 : Int32)) fun I5' =>
  bnd (upd4 I5' 8 0 0 23 (-1 : Int32)) fun I6' =>
  f_X8_land_50 FU I6' (0 : Int32)) else (f_X8_land_17 I1'))
theorem b_X8_land (X : CX) (Q : State → Prop) {I : Mem} {P : PMem} {O : Nat → Int64} {D : Bool} {n : Nat} {v1 : Int32} {r : (Int32 × Mem)}  (h : f_X8_land I v1 = some (Sum.inl r)) (E : EndR X cX8_land RX8 3 (some .int) 162 n (some (.inl r.1)) r.2 P O D Q) : Here X cX8_land RX8 3 (some .int) 162 n 0 [some (.inr (.inr (8, 0, 0))), some (.inl v1), none] [] I P O D n Q := by
  unfold f_X8_land at h
  refine h_aload_n dX8_land_0 rfl ?_
  refine h_iconst (0 : Int32) dX8_land_1 k_iconst_0 ?_
  obtain ⟨I1', e1, h⟩ := bnd_some h
  refine p_X8_150  dX8_land_2 ?_
  refine h_nmI e1 ?_
  refine h_iload_n dX8_land_5 rfl ?_
  refine h_if_lt (tgt := 17) dX8_land_6 (by decide) (fun q1 => ?_) (fun q1 => ?_)
  · rw [if_pos q1] at h
    exact h_mask [true, false, false] (b_X8_land_17 X Q  h E)
  · rw [if_neg q1] at h
    refine h_iload_n dX8_land_9 rfl ?_
    refine h_aload_n dX8_land_10 rfl ?_
    refine g_X8_157  dX8_land_11 ?_
    refine h_icmp_le (tgt := 23) dX8_land_14 (by decide) (fun q2 => ?_) (fun q2 => ?_)
    · rw [if_pos q2] at h
      refine h_aload_n dX8_land_23 rfl ?_
      refine h_iconst (0 : Int32) dX8_land_24 k_iconst_0 ?_
      obtain ⟨I2', e2, h⟩ := bnd_some h
      refine p_X8_157  dX8_land_25 ?_
      refine h_nmI e2 ?_
      refine h_aload_n dX8_land_28 rfl ?_
      refine h_iload_n dX8_land_29 rfl ?_
      obtain ⟨I3', e3, h⟩ := bnd_some h
      refine p_X8_160  dX8_land_30 ?_
      refine h_nmI e3 ?_
      refine h_aload_n dX8_land_33 rfl ?_
      refine h_iconst (0 : Int32) dX8_land_34 k_iconst_0 ?_
      obtain ⟨I4', e4, h⟩ := bnd_some h
      refine p_X8_163  dX8_land_35 ?_
      refine h_nmI e4 ?_
      refine h_aload_n dX8_land_38 rfl ?_
      refine h_iconst (0 : Int32) dX8_land_39 k_iconst_0 ?_
      obtain ⟨I5', e5, h⟩ := bnd_some h
      refine p_X8_199  dX8_land_40 ?_
      refine h_nmI e5 ?_
      refine h_aload_n dX8_land_43 rfl ?_
      refine h_iconst (-1 : Int32) dX8_land_44 k_iconst_m1 ?_
      obtain ⟨I6', e6, h⟩ := bnd_some h
      refine p_X8_66  dX8_land_45 ?_
      refine h_nmI e6 ?_
      refine h_iconst (0 : Int32) dX8_land_48 k_iconst_0 ?_
      refine h_istore_n dX8_land_49 (by decide) rfl ?_
      exact h_mask [true, false, true] (b_X8_land_50 X Q FU  h E)
    · rw [if_neg q2] at h
      exact h_mask [true, false, false] (b_X8_land_17 X Q  h E)
theorem bx_X8_land (X : CX) (Q : State → Prop) {I : Mem} {P : PMem} {O : Nat → Int64} {D : Bool} {n : Nat} {v1 : Int32} {r : Nat}  (h : f_X8_land I v1 = some (Sum.inr r)) (E : EndX X cX8_land RX8 3 (some .int) 162 (n + 1) r I P O D Q) : Here X cX8_land RX8 3 (some .int) 162 (n + 1) 0 [some (.inr (.inr (8, 0, 0))), some (.inl v1), none] [] I P O D n Q := by
  unfold f_X8_land at h
  refine h_aload_n dX8_land_0 rfl ?_
  refine h_iconst (0 : Int32) dX8_land_1 k_iconst_0 ?_
  obtain ⟨I1', e1, h⟩ := bnd_some h
  refine p_X8_150  dX8_land_2 ?_
  refine h_nmI e1 ?_
  refine h_iload_n dX8_land_5 rfl ?_
  refine h_if_lt (tgt := 17) dX8_land_6 (by decide) (fun q1 => ?_) (fun q1 => ?_)
  · rw [if_pos q1] at h
    exact h_mask [true, false, false] (bx_X8_land_17 X Q  h E)
  · rw [if_neg q1] at h
    refine h_iload_n dX8_land_9 rfl ?_
    refine h_aload_n dX8_land_10 rfl ?_
    refine g_X8_157  dX8_land_11 ?_
    refine h_icmp_le (tgt := 23) dX8_land_14 (by decide) (fun q2 => ?_) (fun q2 => ?_)
    · rw [if_pos q2] at h
      refine h_aload_n dX8_land_23 rfl ?_
      refine h_iconst (0 : Int32) dX8_land_24 k_iconst_0 ?_
      obtain ⟨I2', e2, h⟩ := bnd_some h
      refine p_X8_157  dX8_land_25 ?_
      refine h_nmI e2 ?_
      refine h_aload_n dX8_land_28 rfl ?_
      refine h_iload_n dX8_land_29 rfl ?_
      obtain ⟨I3', e3, h⟩ := bnd_some h
      refine p_X8_160  dX8_land_30 ?_
      refine h_nmI e3 ?_
      refine h_aload_n dX8_land_33 rfl ?_
      refine h_iconst (0 : Int32) dX8_land_34 k_iconst_0 ?_
      obtain ⟨I4', e4, h⟩ := bnd_some h
      refine p_X8_163  dX8_land_35 ?_
      refine h_nmI e4 ?_
      refine h_aload_n dX8_land_38 rfl ?_
      refine h_iconst (0 : Int32) dX8_land_39 k_iconst_0 ?_
      obtain ⟨I5', e5, h⟩ := bnd_some h
      refine p_X8_199  dX8_land_40 ?_
      refine h_nmI e5 ?_
      refine h_aload_n dX8_land_43 rfl ?_
      refine h_iconst (-1 : Int32) dX8_land_44 k_iconst_m1 ?_
      obtain ⟨I6', e6, h⟩ := bnd_some h
      refine p_X8_66  dX8_land_45 ?_
      refine h_nmI e6 ?_
      refine h_iconst (0 : Int32) dX8_land_48 k_iconst_0 ?_
      refine h_istore_n dX8_land_49 (by decide) rfl ?_
      exact h_mask [true, false, true] (bx_X8_land_50 X Q FU  h E)
    · rw [if_neg q2] at h
      exact h_mask [true, false, false] (bx_X8_land_17 X Q  h E)
theorem m_X8_land {I : Mem} {P : PMem} {O : Nat → Int64} {D : Bool} {n : Nat} {v1 : Int32} {r : (Int32 × Mem)}  (h : f_X8_land I v1 = some (Sum.inl r)) : MethR yX8_land cX8_land 3 (some .int) 162 [.inr (.inr (8, 0, 0)), .inl v1] I P O D n (some (.inl r.1)) r.2 P O D n := meth_R (Nat.le_refl _) (by decide) rfl (Nat.le_of_ble_eq_true rfl) rfl (fun X Q E => b_X8_land X Q  h E)
theorem mx_X8_land {I : Mem} {P : PMem} {O : Nat → Int64} {D : Bool} {n : Nat} {v1 : Int32} {r : Nat}  (h : f_X8_land I v1 = some (Sum.inr r)) : MethX yX8_land cX8_land 3 (some .int) 162 [.inr (.inr (8, 0, 0)), .inl v1] I P O D n r I P O D (n + 1) := meth_X (Nat.le_succ _) (by decide) rfl (Nat.le_of_ble_eq_true rfl) rfl (fun X Q E => bx_X8_land X Q  h E)
def f_X8_fault   (I : Mem) : Option (Int32 × Mem) :=
  bnd (upd4 I 8 0 0 2 (0 : Int32)) fun I1' =>
  some ((I1' 8 0 0 23), I1')
theorem b_X8_fault (X : CX) (Q : State → Prop) {I : Mem} {P : PMem} {O : Nat → Int64} {D : Bool} {n : Nat} {r : (Int32 × Mem)}  (h : f_X8_fault I = some r) (E : EndR X cX8_fault RX8 1 (some .int) 2 n (some (.inl r.1)) r.2 P O D Q) : Here X cX8_fault RX8 1 (some .int) 2 n 0 [some (.inr (.inr (8, 0, 0)))] [] I P O D n Q := by
  unfold f_X8_fault at h
  refine h_aload_n dX8_fault_0 rfl ?_
  refine h_iconst (0 : Int32) dX8_fault_1 k_iconst_0 ?_
  obtain ⟨I1', e1, h⟩ := bnd_some h
  refine p_X8_150  dX8_fault_2 ?_
  refine h_nmI e1 ?_
  refine h_aload_n dX8_fault_5 rfl ?_
  refine g_X8_66  dX8_fault_6 ?_
  cases h
  exact h_iret dX8_fault_9 rfl E
theorem m_X8_fault {I : Mem} {P : PMem} {O : Nat → Int64} {D : Bool} {n : Nat}  {r : (Int32 × Mem)}  (h : f_X8_fault I = some r) : MethR yX8_fault cX8_fault 1 (some .int) 2 [.inr (.inr (8, 0, 0))] I P O D n (some (.inl r.1)) r.2 P O D n := meth_R (Nat.le_refl _) (by decide) rfl (Nat.le_of_ble_eq_true rfl) rfl (fun X Q E => b_X8_fault X Q  h E)
def f_X8_newsDays  (I : Mem) (v1 : Int32) (v2 : Int32) : Option (Int32) :=
  (f_X8_couple I v1 v2).bind fun y1 =>
  gd (inb y1 81) <|
  bnd (I 61 0 0 y1.toNatClampNeg) fun x1 =>
  if x1 < (100000 : Int32) then (some (((x1 * (I 50 0 0 3)) + (9 : Int32)) / (10 : Int32))) else (some (100000 : Int32))
theorem b_X8_newsDays (X : CX) (Q : State → Prop) {I : Mem} {P : PMem} {O : Nat → Int64} {D : Bool} {n : Nat} {v1 : Int32} {v2 : Int32} {r : (Int32)}  (h : f_X8_newsDays I v1 v2 = some r) (E : EndR X cX8_newsDays RX8 4 (some .int) 3 n (some (.inl r)) I P O D Q) : Here X cX8_newsDays RX8 4 (some .int) 3 n 0 [some (.inr (.inr (8, 0, 0))), some (.inl v1), some (.inl v2), none] [] I P O D n Q := by
  unfold f_X8_newsDays at h
  refine h_aload_n dX8_newsDays_0 rfl ?_
  refine g_X8_70  dX8_newsDays_1 ?_
  refine h_iload_n dX8_newsDays_4 rfl ?_
  refine h_iload_n dX8_newsDays_5 rfl ?_
  obtain ⟨y1, hh1, h⟩ := obd_some h
  refine h_cSi [.inl v1, .inl v2] (m_X8_couple  hh1) cs_X8_276 dX8_newsDays_6 rfl (by decide) rfl (Or.inr rfl) rfl ?_
  obtain ⟨g1, h⟩ := gd_some h
  refine al_61  y1.toNatClampNeg rfl dX8_newsDays_9 g1 ?_
  obtain ⟨x1, e1, h⟩ := bnd_some h
  refine h_nmv e1 ?_
  refine h_istore_n dX8_newsDays_10 (by decide) rfl ?_
  refine h_iload_n dX8_newsDays_11 rfl ?_
  refine h_ldci (100000 : Int32) dX8_newsDays_12 kc_X8_186 ?_
  refine h_icmp_lt (tgt := 22) dX8_newsDays_14 (by decide) (fun q1 => ?_) (fun q1 => ?_)
  · rw [if_pos q1] at h
    refine h_iload_n dX8_newsDays_22 rfl ?_
    refine h_aload_n dX8_newsDays_23 rfl ?_
    refine g_X8_34  dX8_newsDays_24 ?_
    refine h_iconst (3 : Int32) dX8_newsDays_27 k_iconst_3 ?_
    refine al_50  3 cl_3 dX8_newsDays_28 rfl ?_
    refine h_imul dX8_newsDays_29 ?_
    refine h_bipush (9 : Int32) dX8_newsDays_30 k_bipush_9 ?_
    refine h_iadd dX8_newsDays_32 ?_
    refine h_bipush (10 : Int32) dX8_newsDays_33 k_bipush_10 ?_
    refine h_div dX8_newsDays_35 (by decide) ?_
    cases h
    exact h_iret dX8_newsDays_36 rfl E
  · rw [if_neg q1] at h
    refine h_ldci (100000 : Int32) dX8_newsDays_17 kc_X8_186 ?_
    refine h_goto (tgt := 36) dX8_newsDays_19 (by decide) ?_
    cases h
    exact h_iret dX8_newsDays_36 rfl E
theorem m_X8_newsDays {I : Mem} {P : PMem} {O : Nat → Int64} {D : Bool} {n : Nat} {v1 : Int32} {v2 : Int32} {r : (Int32)}  (h : f_X8_newsDays I v1 v2 = some r) : MethR yX8_newsDays cX8_newsDays 4 (some .int) 3 [.inr (.inr (8, 0, 0)), .inl v1, .inl v2] I P O D n (some (.inl r)) I P O D n := meth_R (Nat.le_refl _) (by decide) rfl (Nat.le_of_ble_eq_true rfl) rfl (fun X Q E => b_X8_newsDays X Q  h E)
def f_X8_pack_73  (c1 : Nat) (z1 : Nat) (r1 : Nat) : Nat → Mem → Int32 → Int32 → Option (Mem)
  | 0, _, _, _ => none
  | fu + 1, I, v3, v4 =>
    if (12 : Int32) ≤ v4 then (some I) else (gd (inb v4 15) <|
    gd (inb (v3 + v4) (cL c1 z1)) <|
    bnd (upd4 I c1 z1 r1 ((v3 + v4).toNatClampNeg) (I 62 0 0 v4.toNatClampNeg)) fun I1' =>
    gd (inb v4 12) <|
    gd (inb ((v3 + (12 : Int32)) + v4) (cL c1 z1)) <|
    bnd (upd4 I1' c1 z1 r1 (((v3 + (12 : Int32)) + v4).toNatClampNeg) (I1' 63 0 0 v4.toNatClampNeg)) fun I2' =>
    gd (inb v4 18) <|
    gd (inb ((v3 + (24 : Int32)) + v4) (cL c1 z1)) <|
    bnd (upd4 I2' c1 z1 r1 (((v3 + (24 : Int32)) + v4).toNatClampNeg) (I2' 64 0 0 v4.toNatClampNeg)) fun I3' =>
    (f_X8_pack_73 c1 z1 r1 fu) I3' v3 (v4 + (1 : Int32)))
theorem b_X8_pack_73 (X : CX) (Q : State → Prop) {P : PMem} {O : Nat → Int64} {D : Bool} {n : Nat} {c1 : Nat} {z1 : Nat} {r1 : Nat} {r : (Mem)}  (hc1 : iaOK c1 z1 r1 = true) : ∀ (fu : Nat) {I : Mem} {v3 : Int32} {v4 : Int32}, f_X8_pack_73 c1 z1 r1 fu I v3 v4 = some r → EndR X cX8_pack RX8 5 (none) 2 n none r P O D Q → Here X cX8_pack RX8 5 (none) 2 n 73 [some (.inr (.inr (8, 0, 0))), some (.inr (.inr (c1, z1, r1))), none, some (.inl v3), some (.inl v4)] [] I P O D n Q := by
  intro fu
  induction fu with
  | zero => intro I v3 v4 h E; cases h
  | succ fu ih =>
  intro I v3 v4 h E
  have H73 : ∀ (I : Mem) (v3 : Int32) (v4 : Int32), f_X8_pack_73 c1 z1 r1 fu I v3 v4 = some r → Here X cX8_pack RX8 5 (none) 2 n 73 [some (.inr (.inr (8, 0, 0))), some (.inr (.inr (c1, z1, r1))), none, some (.inl v3), some (.inl v4)] [] I P O D n Q := fun _ _ _ b => ih b E
  simp only [f_X8_pack_73] at h
  refine h_iload dX8_pack_73 rfl ?_
  refine h_bipush (12 : Int32) dX8_pack_75 k_bipush_12 ?_
  refine h_icmp_ge (tgt := 131) dX8_pack_77 (by decide) (fun q1 => ?_) (fun q1 => ?_)
  · rw [if_pos q1] at h
    cases h
    exact h_vret dX8_pack_131 rfl E
  · rw [if_neg q1] at h
    refine h_aload_n dX8_pack_80 rfl ?_
    refine h_iload_n dX8_pack_81 rfl ?_
    refine h_iload dX8_pack_82 rfl ?_
    refine h_iadd dX8_pack_84 ?_
    refine h_aload_n dX8_pack_85 rfl ?_
    refine g_X8_73  dX8_pack_86 ?_
    refine h_iload dX8_pack_89 rfl ?_
    obtain ⟨g1, h⟩ := gd_some h
    refine al_62  v4.toNatClampNeg rfl dX8_pack_91 g1 ?_
    obtain ⟨g2, h⟩ := gd_some h
    obtain ⟨I1', e1, h⟩ := bnd_some h
    refine as_v hc1 ((v3 + v4).toNatClampNeg) rfl dX8_pack_92 g2 ?_
    refine h_nmI e1 ?_
    refine h_aload_n dX8_pack_93 rfl ?_
    refine h_iload_n dX8_pack_94 rfl ?_
    refine h_bipush (12 : Int32) dX8_pack_95 k_bipush_12 ?_
    refine h_iadd dX8_pack_97 ?_
    refine h_iload dX8_pack_98 rfl ?_
    refine h_iadd dX8_pack_100 ?_
    refine h_aload_n dX8_pack_101 rfl ?_
    refine g_X8_76  dX8_pack_102 ?_
    refine h_iload dX8_pack_105 rfl ?_
    obtain ⟨g3, h⟩ := gd_some h
    refine al_63  v4.toNatClampNeg rfl dX8_pack_107 g3 ?_
    obtain ⟨g4, h⟩ := gd_some h
    obtain ⟨I2', e2, h⟩ := bnd_some h
    refine as_v hc1 (((v3 + (12 : Int32)) + v4).toNatClampNeg) rfl dX8_pack_108 g4 ?_
    refine h_nmI e2 ?_
    refine h_aload_n dX8_pack_109 rfl ?_
    refine h_iload_n dX8_pack_110 rfl ?_
    refine h_bipush (24 : Int32) dX8_pack_111 k_bipush_24 ?_
    refine h_iadd dX8_pack_113 ?_
    refine h_iload dX8_pack_114 rfl ?_
    refine h_iadd dX8_pack_116 ?_
    refine h_aload_n dX8_pack_117 rfl ?_
    refine g_X8_79  dX8_pack_118 ?_
    refine h_iload dX8_pack_121 rfl ?_
    obtain ⟨g5, h⟩ := gd_some h
    refine al_64  v4.toNatClampNeg rfl dX8_pack_123 g5 ?_
    obtain ⟨g6, h⟩ := gd_some h
    obtain ⟨I3', e3, h⟩ := bnd_some h
    refine as_v hc1 (((v3 + (24 : Int32)) + v4).toNatClampNeg) rfl dX8_pack_124 g6 ?_
    refine h_nmI e3 ?_
    refine h_iinc (1 : Int32) dX8_pack_125 rfl k_iinc_1 (by decide) rfl ?_
    refine h_goto (tgt := 73) dX8_pack_128 (by decide) ?_
    exact (H73 _ _ _ h)
def f_X8_pack_5  (c1 : Nat) (z1 : Nat) (r1 : Nat) : Nat → Mem → Int32 → Int32 → Option (Mem)
  | 0, _, _, _ => none
  | fu + 1, I, v3, v4 =>
    if (5 : Int32) ≤ v4 then (gd (inb (v3 + (5 : Int32)) (cL c1 z1)) <|
    bnd (upd4 I c1 z1 r1 ((v3 + (5 : Int32)).toNatClampNeg) (I 8 0 0 29)) fun I1' =>
    gd (inb ((v3 + (5 : Int32)) + (1 : Int32)) (cL c1 z1)) <|
    bnd (upd4 I1' c1 z1 r1 (((v3 + (5 : Int32)) + (1 : Int32)).toNatClampNeg) (I1' 8 0 0 30)) fun I2' =>
    gd (inb ((v3 + (5 : Int32)) + (2 : Int32)) (cL c1 z1)) <|
    bnd (upd4 I2' c1 z1 r1 (((v3 + (5 : Int32)) + (2 : Int32)).toNatClampNeg) (I2' 8 0 0 31)) fun I3' =>
    gd (inb ((v3 + (5 : Int32)) + (3 : Int32)) (cL c1 z1)) <|
    bnd (upd4 I3' c1 z1 r1 (((v3 + (5 : Int32)) + (3 : Int32)).toNatClampNeg) (I3' 8 0 0 32)) fun I4' =>
    f_X8_pack_73 c1 z1 r1 FU I4' ((v3 + (5 : Int32)) + (4 : Int32)) (0 : Int32)) else (gd (inb v4 10) <|
    gd (inb (v3 + v4) (cL c1 z1)) <|
    bnd (upd4 I c1 z1 r1 ((v3 + v4).toNatClampNeg) (I 53 0 0 v4.toNatClampNeg)) fun I5' =>
    (f_X8_pack_5 c1 z1 r1 fu) I5' v3 (v4 + (1 : Int32)))
theorem b_X8_pack_5 (X : CX) (Q : State → Prop) {P : PMem} {O : Nat → Int64} {D : Bool} {n : Nat} {c1 : Nat} {z1 : Nat} {r1 : Nat} {r : (Mem)}  (hc1 : iaOK c1 z1 r1 = true) : ∀ (fu : Nat) {I : Mem} {v3 : Int32} {v4 : Int32}, f_X8_pack_5 c1 z1 r1 fu I v3 v4 = some r → EndR X cX8_pack RX8 5 (none) 2 n none r P O D Q → Here X cX8_pack RX8 5 (none) 2 n 5 [some (.inr (.inr (8, 0, 0))), some (.inr (.inr (c1, z1, r1))), none, some (.inl v3), some (.inl v4)] [] I P O D n Q := by
  intro fu
  induction fu with
  | zero => intro I v3 v4 h E; cases h
  | succ fu ih =>
  intro I v3 v4 h E
  have H5 : ∀ (I : Mem) (v3 : Int32) (v4 : Int32), f_X8_pack_5 c1 z1 r1 fu I v3 v4 = some r → Here X cX8_pack RX8 5 (none) 2 n 5 [some (.inr (.inr (8, 0, 0))), some (.inr (.inr (c1, z1, r1))), none, some (.inl v3), some (.inl v4)] [] I P O D n Q := fun _ _ _ b => ih b E
  simp only [f_X8_pack_5] at h
  refine h_iload dX8_pack_5 rfl ?_
  refine h_iconst (5 : Int32) dX8_pack_7 k_iconst_5 ?_
  refine h_icmp_ge (tgt := 30) dX8_pack_8 (by decide) (fun q1 => ?_) (fun q1 => ?_)
  · rw [if_pos q1] at h
    refine h_iinc (5 : Int32) dX8_pack_30 rfl k_iinc_5 (by decide) rfl ?_
    refine h_aload_n dX8_pack_33 rfl ?_
    refine h_iload_n dX8_pack_34 rfl ?_
    refine h_aload_n dX8_pack_35 rfl ?_
    refine g_X8_311  dX8_pack_36 ?_
    obtain ⟨g1, h⟩ := gd_some h
    obtain ⟨I1', e1, h⟩ := bnd_some h
    refine as_v hc1 ((v3 + (5 : Int32)).toNatClampNeg) rfl dX8_pack_39 g1 ?_
    refine h_nmI e1 ?_
    refine h_aload_n dX8_pack_40 rfl ?_
    refine h_iload_n dX8_pack_41 rfl ?_
    refine h_iconst (1 : Int32) dX8_pack_42 k_iconst_1 ?_
    refine h_iadd dX8_pack_43 ?_
    refine h_aload_n dX8_pack_44 rfl ?_
    refine g_X8_314  dX8_pack_45 ?_
    obtain ⟨g2, h⟩ := gd_some h
    obtain ⟨I2', e2, h⟩ := bnd_some h
    refine as_v hc1 (((v3 + (5 : Int32)) + (1 : Int32)).toNatClampNeg) rfl dX8_pack_48 g2 ?_
    refine h_nmI e2 ?_
    refine h_aload_n dX8_pack_49 rfl ?_
    refine h_iload_n dX8_pack_50 rfl ?_
    refine h_iconst (2 : Int32) dX8_pack_51 k_iconst_2 ?_
    refine h_iadd dX8_pack_52 ?_
    refine h_aload_n dX8_pack_53 rfl ?_
    refine g_X8_317  dX8_pack_54 ?_
    obtain ⟨g3, h⟩ := gd_some h
    obtain ⟨I3', e3, h⟩ := bnd_some h
    refine as_v hc1 (((v3 + (5 : Int32)) + (2 : Int32)).toNatClampNeg) rfl dX8_pack_57 g3 ?_
    refine h_nmI e3 ?_
    refine h_aload_n dX8_pack_58 rfl ?_
    refine h_iload_n dX8_pack_59 rfl ?_
    refine h_iconst (3 : Int32) dX8_pack_60 k_iconst_3 ?_
    refine h_iadd dX8_pack_61 ?_
    refine h_aload_n dX8_pack_62 rfl ?_
    refine g_X8_320  dX8_pack_63 ?_
    obtain ⟨g4, h⟩ := gd_some h
    obtain ⟨I4', e4, h⟩ := bnd_some h
    refine as_v hc1 (((v3 + (5 : Int32)) + (3 : Int32)).toNatClampNeg) rfl dX8_pack_66 g4 ?_
    refine h_nmI e4 ?_
    refine h_iinc (4 : Int32) dX8_pack_67 rfl k_iinc_4 (by decide) rfl ?_
    refine h_iconst (0 : Int32) dX8_pack_70 k_iconst_0 ?_
    refine h_istore dX8_pack_71 (by decide) rfl ?_
    exact (b_X8_pack_73 X Q hc1 FU  h E)
  · rw [if_neg q1] at h
    refine h_aload_n dX8_pack_11 rfl ?_
    refine h_iload_n dX8_pack_12 rfl ?_
    refine h_iload dX8_pack_13 rfl ?_
    refine h_iadd dX8_pack_15 ?_
    refine h_aload_n dX8_pack_16 rfl ?_
    refine g_X8_44  dX8_pack_17 ?_
    refine h_iload dX8_pack_20 rfl ?_
    obtain ⟨g5, h⟩ := gd_some h
    refine al_53  v4.toNatClampNeg rfl dX8_pack_22 g5 ?_
    obtain ⟨g6, h⟩ := gd_some h
    obtain ⟨I5', e5, h⟩ := bnd_some h
    refine as_v hc1 ((v3 + v4).toNatClampNeg) rfl dX8_pack_23 g6 ?_
    refine h_nmI e5 ?_
    refine h_iinc (1 : Int32) dX8_pack_24 rfl k_iinc_1 (by decide) rfl ?_
    refine h_goto (tgt := 5) dX8_pack_27 (by decide) ?_
    exact (H5 _ _ _ h)
def f_X8_pack  (c1 : Nat) (z1 : Nat) (r1 : Nat) (I : Mem) (v2 : Int32) : Option (Mem) :=
  f_X8_pack_5 c1 z1 r1 FU I v2 (0 : Int32)
theorem b_X8_pack (X : CX) (Q : State → Prop) {I : Mem} {P : PMem} {O : Nat → Int64} {D : Bool} {n : Nat} {c1 : Nat} {z1 : Nat} {r1 : Nat} {v2 : Int32} {r : (Mem)}  (hc1 : iaOK c1 z1 r1 = true) (h : f_X8_pack c1 z1 r1 I v2 = some r) (E : EndR X cX8_pack RX8 5 (none) 2 n none r P O D Q) : Here X cX8_pack RX8 5 (none) 2 n 0 [some (.inr (.inr (8, 0, 0))), some (.inr (.inr (c1, z1, r1))), some (.inl v2), none, none] [] I P O D n Q := by
  unfold f_X8_pack at h
  refine h_iload_n dX8_pack_0 rfl ?_
  refine h_istore_n dX8_pack_1 (by decide) rfl ?_
  refine h_iconst (0 : Int32) dX8_pack_2 k_iconst_0 ?_
  refine h_istore dX8_pack_3 (by decide) rfl ?_
  exact h_mask [true, true, false, true, true] (b_X8_pack_5 X Q hc1 FU  h E)
theorem m_X8_pack {I : Mem} {P : PMem} {O : Nat → Int64} {D : Bool} {n : Nat} {c1 : Nat} {z1 : Nat} {r1 : Nat} {v2 : Int32} {r : (Mem)} (hc1 : iaOK c1 z1 r1 = true) (h : f_X8_pack c1 z1 r1 I v2 = some r) : MethR yX8_pack cX8_pack 5 (none) 2 [.inr (.inr (8, 0, 0)), .inr (.inr (c1, z1, r1)), .inl v2] I P O D n none r P O D n := meth_R (Nat.le_refl _) (by decide) rfl (Nat.le_of_ble_eq_true rfl) rfl (fun X Q E => b_X8_pack X Q hc1 h E)
