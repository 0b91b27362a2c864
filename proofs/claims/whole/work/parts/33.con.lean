theorem dX4_init_0 : decode cX4_init 0 = .ok (.aload_n 0, 1) := by decide +kernel
theorem dX4_init_1 : decode cX4_init 1 = .ok (.invokespecial 3, 3) := by decide +kernel
theorem dX4_init_4 : decode cX4_init 4 = .ok (.aload_n 0, 1) := by decide +kernel
theorem dX4_init_5 : decode cX4_init 5 = .ok (.sipush 600, 3) := by decide +kernel
theorem dX4_init_8 : decode cX4_init 8 = .ok (.newarray .int, 2) := by decide +kernel
theorem dX4_init_10 : decode cX4_init 10 = .ok (.putfield 9, 3) := by decide +kernel
theorem dX4_init_13 : decode cX4_init 13 = .ok (.aload_n 0, 1) := by decide +kernel
theorem dX4_init_14 : decode cX4_init 14 = .ok (.bipush 40, 2) := by decide +kernel
theorem dX4_init_16 : decode cX4_init 16 = .ok (.newarray .int, 2) := by decide +kernel
theorem dX4_init_18 : decode cX4_init 18 = .ok (.putfield 15, 3) := by decide +kernel
theorem dX4_init_21 : decode cX4_init 21 = .ok (.aload_n 0, 1) := by decide +kernel
theorem dX4_init_22 : decode cX4_init 22 = .ok (.iconst 5, 1) := by decide +kernel
theorem dX4_init_23 : decode cX4_init 23 = .ok (.newarray .int, 2) := by decide +kernel
theorem dX4_init_25 : decode cX4_init 25 = .ok (.putfield 18, 3) := by decide +kernel
theorem dX4_init_28 : decode cX4_init 28 = .ok (.return_, 1) := by decide +kernel
theorem dX6_init_0 : decode cX6_init 0 = .ok (.aload_n 0, 1) := by decide +kernel
theorem dX6_init_1 : decode cX6_init 1 = .ok (.invokespecial 1, 3) := by decide +kernel
theorem dX6_init_4 : decode cX6_init 4 = .ok (.iload_n 1, 1) := by decide +kernel
theorem dX6_init_5 : decode cX6_init 5 = .ok (.iconst 1, 1) := by decide +kernel
theorem dX6_init_6 : decode cX6_init 6 = .ok (.invokestatic 7, 3) := by decide +kernel
theorem dX6_init_9 : decode cX6_init 9 = .ok (.istore_n 2, 1) := by decide +kernel
theorem dX6_init_10 : decode cX6_init 10 = .ok (.aload_n 0, 1) := by decide +kernel
theorem dX6_init_11 : decode cX6_init 11 = .ok (.iload_n 2, 1) := by decide +kernel
theorem dX6_init_12 : decode cX6_init 12 = .ok (.newarray .int, 2) := by decide +kernel
theorem dX6_init_14 : decode cX6_init 14 = .ok (.putfield 13, 3) := by decide +kernel
theorem dX6_init_17 : decode cX6_init 17 = .ok (.aload_n 0, 1) := by decide +kernel
theorem dX6_init_18 : decode cX6_init 18 = .ok (.iload_n 2, 1) := by decide +kernel
theorem dX6_init_19 : decode cX6_init 19 = .ok (.newarray .int, 2) := by decide +kernel
theorem dX6_init_21 : decode cX6_init 21 = .ok (.putfield 19, 3) := by decide +kernel
theorem dX6_init_24 : decode cX6_init 24 = .ok (.aload_n 0, 1) := by decide +kernel
theorem dX6_init_25 : decode cX6_init 25 = .ok (.iload_n 2, 1) := by decide +kernel
theorem dX6_init_26 : decode cX6_init 26 = .ok (.newarray .int, 2) := by decide +kernel
theorem dX6_init_28 : decode cX6_init 28 = .ok (.putfield 22, 3) := by decide +kernel
theorem dX6_init_31 : decode cX6_init 31 = .ok (.return_, 1) := by decide +kernel
theorem dX3_init_0 : decode cX3_init 0 = .ok (.aload_n 0, 1) := by decide +kernel
theorem dX3_init_1 : decode cX3_init 1 = .ok (.invokespecial 3, 3) := by decide +kernel
theorem dX3_init_4 : decode cX3_init 4 = .ok (.aload_n 0, 1) := by decide +kernel
theorem dX3_init_5 : decode cX3_init 5 = .ok (.bipush 9, 2) := by decide +kernel
theorem dX3_init_7 : decode cX3_init 7 = .ok (.bipush 9, 2) := by decide +kernel
theorem dX3_init_9 : decode cX3_init 9 = .ok (.multianewarray 9 2, 4) := by decide +kernel
theorem dX3_init_13 : decode cX3_init 13 = .ok (.putfield 11, 3) := by decide +kernel
theorem dX3_init_16 : decode cX3_init 16 = .ok (.aload_n 0, 1) := by decide +kernel
theorem dX3_init_17 : decode cX3_init 17 = .ok (.bipush 9, 2) := by decide +kernel
theorem dX3_init_19 : decode cX3_init 19 = .ok (.bipush 9, 2) := by decide +kernel
theorem dX3_init_21 : decode cX3_init 21 = .ok (.multianewarray 9 2, 4) := by decide +kernel
theorem dX3_init_25 : decode cX3_init 25 = .ok (.putfield 16, 3) := by decide +kernel
theorem dX3_init_28 : decode cX3_init 28 = .ok (.aload_n 0, 1) := by decide +kernel
theorem dX3_init_29 : decode cX3_init 29 = .ok (.bipush 9, 2) := by decide +kernel
theorem dX3_init_31 : decode cX3_init 31 = .ok (.bipush 9, 2) := by decide +kernel
theorem dX3_init_33 : decode cX3_init 33 = .ok (.multianewarray 9 2, 4) := by decide +kernel
theorem dX3_init_37 : decode cX3_init 37 = .ok (.putfield 19, 3) := by decide +kernel
theorem dX3_init_40 : decode cX3_init 40 = .ok (.aload_n 0, 1) := by decide +kernel
theorem dX3_init_41 : decode cX3_init 41 = .ok (.iconst 5, 1) := by decide +kernel
theorem dX3_init_42 : decode cX3_init 42 = .ok (.newarray .int, 2) := by decide +kernel
theorem dX3_init_44 : decode cX3_init 44 = .ok (.putfield 22, 3) := by decide +kernel
theorem dX3_init_47 : decode cX3_init 47 = .ok (.aload_n 0, 1) := by decide +kernel
theorem dX3_init_48 : decode cX3_init 48 = .ok (.iconst 5, 1) := by decide +kernel
theorem dX3_init_49 : decode cX3_init 49 = .ok (.newarray .int, 2) := by decide +kernel
theorem dX3_init_51 : decode cX3_init 51 = .ok (.putfield 26, 3) := by decide +kernel
theorem dX3_init_54 : decode cX3_init 54 = .ok (.aload_n 0, 1) := by decide +kernel
theorem dX3_init_55 : decode cX3_init 55 = .ok (.iconst 5, 1) := by decide +kernel
theorem dX3_init_56 : decode cX3_init 56 = .ok (.newarray .int, 2) := by decide +kernel
theorem dX3_init_58 : decode cX3_init 58 = .ok (.putfield 29, 3) := by decide +kernel
theorem dX3_init_61 : decode cX3_init 61 = .ok (.aload_n 0, 1) := by decide +kernel
theorem dX3_init_62 : decode cX3_init 62 = .ok (.iconst 5, 1) := by decide +kernel
theorem dX3_init_63 : decode cX3_init 63 = .ok (.newarray .int, 2) := by decide +kernel
theorem dX3_init_65 : decode cX3_init 65 = .ok (.putfield 32, 3) := by decide +kernel
theorem dX3_init_68 : decode cX3_init 68 = .ok (.aload_n 0, 1) := by decide +kernel
theorem dX3_init_69 : decode cX3_init 69 = .ok (.iconst 5, 1) := by decide +kernel
theorem dX3_init_70 : decode cX3_init 70 = .ok (.bipush 7, 2) := by decide +kernel
theorem dX3_init_72 : decode cX3_init 72 = .ok (.multianewarray 9 2, 4) := by decide +kernel
theorem dX3_init_76 : decode cX3_init 76 = .ok (.putfield 35, 3) := by decide +kernel
theorem dX3_init_79 : decode cX3_init 79 = .ok (.aload_n 0, 1) := by decide +kernel
theorem dX3_init_80 : decode cX3_init 80 = .ok (.bipush 6, 2) := by decide +kernel
theorem dX3_init_82 : decode cX3_init 82 = .ok (.bipush 9, 2) := by decide +kernel
theorem dX3_init_84 : decode cX3_init 84 = .ok (.multianewarray 9 2, 4) := by decide +kernel
theorem dX3_init_88 : decode cX3_init 88 = .ok (.putfield 38, 3) := by decide +kernel
theorem dX3_init_91 : decode cX3_init 91 = .ok (.aload_n 0, 1) := by decide +kernel
theorem dX3_init_92 : decode cX3_init 92 = .ok (.new 41, 3) := by decide +kernel
theorem dX3_init_95 : decode cX3_init 95 = .ok (.dup, 1) := by decide +kernel
theorem dX3_init_96 : decode cX3_init 96 = .ok (.invokespecial 43, 3) := by decide +kernel
theorem dX3_init_99 : decode cX3_init 99 = .ok (.putfield 44, 3) := by decide +kernel
theorem dX3_init_102 : decode cX3_init 102 = .ok (.return_, 1) := by decide +kernel
theorem dX0_init_0 : decode cX0_init 0 = .ok (.aload_n 0, 1) := by decide +kernel
theorem dX0_init_1 : decode cX0_init 1 = .ok (.invokespecial 3, 3) := by decide +kernel
theorem dX0_init_4 : decode cX0_init 4 = .ok (.aload_n 0, 1) := by decide +kernel
theorem dX0_init_5 : decode cX0_init 5 = .ok (.iconst 5, 1) := by decide +kernel
theorem dX0_init_6 : decode cX0_init 6 = .ok (.newarray .int, 2) := by decide +kernel
theorem dX0_init_8 : decode cX0_init 8 = .ok (.putfield 9, 3) := by decide +kernel
theorem dX0_init_11 : decode cX0_init 11 = .ok (.aload_n 0, 1) := by decide +kernel
theorem dX0_init_12 : decode cX0_init 12 = .ok (.new 15, 3) := by decide +kernel
theorem dX0_init_15 : decode cX0_init 15 = .ok (.dup, 1) := by decide +kernel
theorem dX0_init_16 : decode cX0_init 16 = .ok (.iconst 4, 1) := by decide +kernel
theorem dX0_init_17 : decode cX0_init 17 = .ok (.invokespecial 17, 3) := by decide +kernel
theorem dX0_init_20 : decode cX0_init 20 = .ok (.putfield 20, 3) := by decide +kernel
theorem dX0_init_23 : decode cX0_init 23 = .ok (.aload_n 0, 1) := by decide +kernel
theorem dX0_init_24 : decode cX0_init 24 = .ok (.new 15, 3) := by decide +kernel
theorem dX0_init_27 : decode cX0_init 27 = .ok (.dup, 1) := by decide +kernel
theorem dX0_init_28 : decode cX0_init 28 = .ok (.iconst 4, 1) := by decide +kernel
theorem dX0_init_29 : decode cX0_init 29 = .ok (.invokespecial 17, 3) := by decide +kernel
theorem dX0_init_32 : decode cX0_init 32 = .ok (.putfield 24, 3) := by decide +kernel
theorem dX0_init_35 : decode cX0_init 35 = .ok (.aload_n 0, 1) := by decide +kernel
theorem dX0_init_36 : decode cX0_init 36 = .ok (.new 15, 3) := by decide +kernel
theorem dX0_init_39 : decode cX0_init 39 = .ok (.dup, 1) := by decide +kernel
theorem dX0_init_40 : decode cX0_init 40 = .ok (.iconst 4, 1) := by decide +kernel
theorem dX0_init_41 : decode cX0_init 41 = .ok (.invokespecial 17, 3) := by decide +kernel
theorem dX0_init_44 : decode cX0_init 44 = .ok (.putfield 27, 3) := by decide +kernel
theorem dX0_init_47 : decode cX0_init 47 = .ok (.aload_n 0, 1) := by decide +kernel
theorem dX0_init_48 : decode cX0_init 48 = .ok (.new 15, 3) := by decide +kernel
theorem dX0_init_51 : decode cX0_init 51 = .ok (.dup, 1) := by decide +kernel
theorem dX0_init_52 : decode cX0_init 52 = .ok (.bipush 40, 2) := by decide +kernel
theorem dX0_init_54 : decode cX0_init 54 = .ok (.invokespecial 17, 3) := by decide +kernel
theorem dX0_init_57 : decode cX0_init 57 = .ok (.putfield 30, 3) := by decide +kernel
theorem dX0_init_60 : decode cX0_init 60 = .ok (.aload_n 0, 1) := by decide +kernel
theorem dX0_init_61 : decode cX0_init 61 = .ok (.new 15, 3) := by decide +kernel
theorem dX0_init_64 : decode cX0_init 64 = .ok (.dup, 1) := by decide +kernel
theorem dX0_init_65 : decode cX0_init 65 = .ok (.bipush 8, 2) := by decide +kernel
theorem dX0_init_67 : decode cX0_init 67 = .ok (.invokespecial 17, 3) := by decide +kernel
theorem dX0_init_70 : decode cX0_init 70 = .ok (.putfield 33, 3) := by decide +kernel
theorem dX0_init_73 : decode cX0_init 73 = .ok (.aload_n 0, 1) := by decide +kernel
theorem dX0_init_74 : decode cX0_init 74 = .ok (.iconst 3, 1) := by decide +kernel
theorem dX0_init_75 : decode cX0_init 75 = .ok (.newarray .int, 2) := by decide +kernel
theorem dX0_init_77 : decode cX0_init 77 = .ok (.putfield 36, 3) := by decide +kernel
theorem dX0_init_80 : decode cX0_init 80 = .ok (.return_, 1) := by decide +kernel
theorem dX1_init_0 : decode cX1_init 0 = .ok (.aload_n 0, 1) := by decide +kernel
theorem dX1_init_1 : decode cX1_init 1 = .ok (.invokespecial 3, 3) := by decide +kernel
theorem dX1_init_4 : decode cX1_init 4 = .ok (.aload_n 0, 1) := by decide +kernel
theorem dX1_init_5 : decode cX1_init 5 = .ok (.iconst 5, 1) := by decide +kernel
theorem dX1_init_6 : decode cX1_init 6 = .ok (.bipush 7, 2) := by decide +kernel
theorem dX1_init_8 : decode cX1_init 8 = .ok (.multianewarray 9 2, 4) := by decide +kernel
theorem dX1_init_12 : decode cX1_init 12 = .ok (.putfield 11, 3) := by decide +kernel
theorem dX1_init_15 : decode cX1_init 15 = .ok (.aload_n 0, 1) := by decide +kernel
theorem dX1_init_16 : decode cX1_init 16 = .ok (.iconst 5, 1) := by decide +kernel
theorem dX1_init_17 : decode cX1_init 17 = .ok (.bipush 7, 2) := by decide +kernel
theorem dX1_init_19 : decode cX1_init 19 = .ok (.multianewarray 9 2, 4) := by decide +kernel
theorem dX1_init_23 : decode cX1_init 23 = .ok (.putfield 16, 3) := by decide +kernel
theorem dX1_init_26 : decode cX1_init 26 = .ok (.aload_n 0, 1) := by decide +kernel
theorem dX1_init_27 : decode cX1_init 27 = .ok (.bipush 6, 2) := by decide +kernel
theorem dX1_init_29 : decode cX1_init 29 = .ok (.iconst 5, 1) := by decide +kernel
theorem dX1_init_30 : decode cX1_init 30 = .ok (.multianewarray 9 2, 4) := by decide +kernel
theorem dX1_init_34 : decode cX1_init 34 = .ok (.putfield 19, 3) := by decide +kernel
theorem dX1_init_37 : decode cX1_init 37 = .ok (.aload_n 0, 1) := by decide +kernel
theorem dX1_init_38 : decode cX1_init 38 = .ok (.bipush 6, 2) := by decide +kernel
theorem dX1_init_40 : decode cX1_init 40 = .ok (.iconst 5, 1) := by decide +kernel
theorem dX1_init_41 : decode cX1_init 41 = .ok (.multianewarray 9 2, 4) := by decide +kernel
theorem dX1_init_45 : decode cX1_init 45 = .ok (.putfield 22, 3) := by decide +kernel
theorem dX1_init_48 : decode cX1_init 48 = .ok (.aload_n 0, 1) := by decide +kernel
theorem dX1_init_49 : decode cX1_init 49 = .ok (.bipush 6, 2) := by decide +kernel
theorem dX1_init_51 : decode cX1_init 51 = .ok (.iconst 5, 1) := by decide +kernel
theorem dX1_init_52 : decode cX1_init 52 = .ok (.multianewarray 9 2, 4) := by decide +kernel
theorem dX1_init_56 : decode cX1_init 56 = .ok (.putfield 25, 3) := by decide +kernel
theorem dX1_init_59 : decode cX1_init 59 = .ok (.aload_n 0, 1) := by decide +kernel
theorem dX1_init_60 : decode cX1_init 60 = .ok (.bipush 6, 2) := by decide +kernel
theorem dX1_init_62 : decode cX1_init 62 = .ok (.newarray .int, 2) := by decide +kernel
theorem dX1_init_64 : decode cX1_init 64 = .ok (.putfield 28, 3) := by decide +kernel
theorem dX1_init_67 : decode cX1_init 67 = .ok (.aload_n 0, 1) := by decide +kernel
theorem dX1_init_68 : decode cX1_init 68 = .ok (.iconst 5, 1) := by decide +kernel
theorem dX1_init_69 : decode cX1_init 69 = .ok (.iconst 5, 1) := by decide +kernel
theorem dX1_init_70 : decode cX1_init 70 = .ok (.multianewarray 9 2, 4) := by decide +kernel
theorem dX1_init_74 : decode cX1_init 74 = .ok (.putfield 32, 3) := by decide +kernel
theorem dX1_init_77 : decode cX1_init 77 = .ok (.aload_n 0, 1) := by decide +kernel
theorem dX1_init_78 : decode cX1_init 78 = .ok (.bipush 6, 2) := by decide +kernel
theorem dX1_init_80 : decode cX1_init 80 = .ok (.newarray .int, 2) := by decide +kernel
theorem dX1_init_82 : decode cX1_init 82 = .ok (.putfield 35, 3) := by decide +kernel
theorem dX1_init_85 : decode cX1_init 85 = .ok (.aload_n 0, 1) := by decide +kernel
theorem dX1_init_86 : decode cX1_init 86 = .ok (.iconst 5, 1) := by decide +kernel
theorem dX1_init_87 : decode cX1_init 87 = .ok (.newarray .int, 2) := by decide +kernel
theorem dX1_init_89 : decode cX1_init 89 = .ok (.putfield 38, 3) := by decide +kernel
theorem dX1_init_92 : decode cX1_init 92 = .ok (.aload_n 0, 1) := by decide +kernel
theorem dX1_init_93 : decode cX1_init 93 = .ok (.iconst 5, 1) := by decide +kernel
theorem dX1_init_94 : decode cX1_init 94 = .ok (.newarray .int, 2) := by decide +kernel
theorem dX1_init_96 : decode cX1_init 96 = .ok (.putfield 41, 3) := by decide +kernel
theorem dX1_init_99 : decode cX1_init 99 = .ok (.aload_n 0, 1) := by decide +kernel
theorem dX1_init_100 : decode cX1_init 100 = .ok (.aload_n 1, 1) := by decide +kernel
theorem dX1_init_101 : decode cX1_init 101 = .ok (.putfield 44, 3) := by decide +kernel
theorem dX1_init_104 : decode cX1_init 104 = .ok (.aload_n 0, 1) := by decide +kernel
theorem dX1_init_105 : decode cX1_init 105 = .ok (.aload_n 2, 1) := by decide +kernel
theorem dX1_init_106 : decode cX1_init 106 = .ok (.putfield 48, 3) := by decide +kernel
theorem dX1_init_109 : decode cX1_init 109 = .ok (.return_, 1) := by decide +kernel
theorem dX5_init_0 : decode cX5_init 0 = .ok (.aload_n 0, 1) := by decide +kernel
theorem dX5_init_1 : decode cX5_init 1 = .ok (.invokespecial 3, 3) := by decide +kernel
theorem dX5_init_4 : decode cX5_init 4 = .ok (.aload_n 0, 1) := by decide +kernel
theorem dX5_init_5 : decode cX5_init 5 = .ok (.iconst (-1), 1) := by decide +kernel
theorem dX5_init_6 : decode cX5_init 6 = .ok (.putfield 9, 3) := by decide +kernel
theorem dX5_init_9 : decode cX5_init 9 = .ok (.aload_n 0, 1) := by decide +kernel
theorem dX5_init_10 : decode cX5_init 10 = .ok (.aload_n 1, 1) := by decide +kernel
theorem dX5_init_11 : decode cX5_init 11 = .ok (.putfield 15, 3) := by decide +kernel
theorem dX5_init_14 : decode cX5_init 14 = .ok (.aload_n 0, 1) := by decide +kernel
theorem dX5_init_15 : decode cX5_init 15 = .ok (.aload_n 2, 1) := by decide +kernel
theorem dX5_init_16 : decode cX5_init 16 = .ok (.putfield 19, 3) := by decide +kernel
theorem dX5_init_19 : decode cX5_init 19 = .ok (.return_, 1) := by decide +kernel
theorem wi_0 : Cond.instantiable RX0 8 ∈ GW := by decide +kernel
theorem df_0 : ∀ j, j < 8 → defaultValue (tyX0 j) = vp_V [.null, .int 0, .null, .null, .null, .null, .null, .null] j := by decide +kernel
theorem wi_1 : Cond.instantiable RX1 13 ∈ GW := by decide +kernel
theorem df_1 : ∀ j, j < 13 → defaultValue (tyX1 j) = vp_V [.null, .null, .int 0, .null, .null, .null, .null, .null, .null, .null, .null, .null, .null] j := by decide +kernel
theorem wi_3 : Cond.instantiable RX3 16 ∈ GW := by decide +kernel
theorem df_3 : ∀ j, j < 16 → defaultValue (tyX3 j) = vp_V [.int 0, .int 0, .int 0, .int 0, .null, .null, .null, .int 0, .null, .null, .null, .null, .null, .int 0, .null, .null] j := by decide +kernel
theorem wi_4 : Cond.instantiable RX4 4 ∈ GW := by decide +kernel
theorem df_4 : ∀ j, j < 4 → defaultValue (tyX4 j) = vp_V [.null, .int 0, .null, .null] j := by decide +kernel
theorem wi_5 : Cond.instantiable RX5 8 ∈ GW := by decide +kernel
theorem df_5 : ∀ j, j < 8 → defaultValue (tyX5 j) = vp_V [.int 0, .int 0, .null, .int 0, .null, .int 0, .int 0, .int 0] j := by decide +kernel
theorem wi_6 : Cond.instantiable RX6 4 ∈ GW := by decide +kernel
theorem df_6 : ∀ j, j < 4 → defaultValue (tyX6 j) = vp_V [.null, .null, .null, .int 0] j := by decide +kernel
theorem df_7 : ∀ j, j < 12 → defaultValue (tyX7 j) = vp_V [.null, .int 0, .null, .null, .null, .null, .null, .int 0, .null, .null, .int 0, .int 0] j := by decide +kernel
theorem wo_RX4_3 : Cond.methodLink RX4 3 objectInit ∈ GW := GW_at 148 (by decide +kernel) (by decide +kernel)
theorem wf_RX4_9 : Cond.fieldLink RX4 9 (TX4 0).1 (TX4 0).2.1 (TX4 0).2.2.1 ∈ GW := GW_at 149 (by decide +kernel) (by decide +kernel)
theorem wf_RX4_15 : Cond.fieldLink RX4 15 (TX4 2).1 (TX4 2).2.1 (TX4 2).2.2.1 ∈ GW := GW_at 151 (by decide +kernel) (by decide +kernel)
theorem wf_RX4_18 : Cond.fieldLink RX4 18 (TX4 3).1 (TX4 3).2.1 (TX4 3).2.2.1 ∈ GW := GW_at 152 (by decide +kernel) (by decide +kernel)
theorem wo_RX6_1 : Cond.methodLink RX6 1 objectInit ∈ GW := GW_at 295 (by decide +kernel) (by decide +kernel)
theorem wl_RX6_7 : Cond.methodLink RX6 7 Lib.Math.max.name ∈ GW := GW_at 296 (by decide +kernel) (by decide +kernel)
theorem wf_RX6_13 : Cond.fieldLink RX6 13 (TX6 0).1 (TX6 0).2.1 (TX6 0).2.2.1 ∈ GW := GW_at 299 (by decide +kernel) (by decide +kernel)
theorem wf_RX6_19 : Cond.fieldLink RX6 19 (TX6 1).1 (TX6 1).2.1 (TX6 1).2.2.1 ∈ GW := GW_at 302 (by decide +kernel) (by decide +kernel)
theorem wf_RX6_22 : Cond.fieldLink RX6 22 (TX6 2).1 (TX6 2).2.1 (TX6 2).2.2.1 ∈ GW := GW_at 305 (by decide +kernel) (by decide +kernel)
theorem wo_RX3_3 : Cond.methodLink RX3 3 objectInit ∈ GW := GW_at 140 (by decide +kernel) (by decide +kernel)
theorem wk_RX3_9 : Cond.classLink RX3 9 "[[I" ∈ GW := GW_at 141 (by decide +kernel) (by decide +kernel)
theorem wf_RX3_11 : Cond.fieldLink RX3 11 (TX3 4).1 (TX3 4).2.1 (TX3 4).2.2.1 ∈ GW := GW_at 175 (by decide +kernel) (by decide +kernel)
theorem wf_RX3_16 : Cond.fieldLink RX3 16 (TX3 5).1 (TX3 5).2.1 (TX3 5).2.2.1 ∈ GW := GW_at 178 (by decide +kernel) (by decide +kernel)
theorem wf_RX3_19 : Cond.fieldLink RX3 19 (TX3 6).1 (TX3 6).2.1 (TX3 6).2.2.1 ∈ GW := GW_at 181 (by decide +kernel) (by decide +kernel)
theorem wf_RX3_22 : Cond.fieldLink RX3 22 (TX3 8).1 (TX3 8).2.1 (TX3 8).2.2.1 ∈ GW := GW_at 188 (by decide +kernel) (by decide +kernel)
theorem wf_RX3_26 : Cond.fieldLink RX3 26 (TX3 9).1 (TX3 9).2.1 (TX3 9).2.2.1 ∈ GW := GW_at 192 (by decide +kernel) (by decide +kernel)
theorem wf_RX3_29 : Cond.fieldLink RX3 29 (TX3 10).1 (TX3 10).2.1 (TX3 10).2.2.1 ∈ GW := GW_at 195 (by decide +kernel) (by decide +kernel)
theorem wf_RX3_32 : Cond.fieldLink RX3 32 (TX3 11).1 (TX3 11).2.1 (TX3 11).2.2.1 ∈ GW := GW_at 199 (by decide +kernel) (by decide +kernel)
theorem wf_RX3_35 : Cond.fieldLink RX3 35 (TX3 12).1 (TX3 12).2.1 (TX3 12).2.2.1 ∈ GW := GW_at 203 (by decide +kernel) (by decide +kernel)
theorem wf_RX3_38 : Cond.fieldLink RX3 38 (TX3 14).1 (TX3 14).2.1 (TX3 14).2.2.1 ∈ GW := GW_at 211 (by decide +kernel) (by decide +kernel)
theorem wk_RX3_41 : Cond.classLink RX3 41 RX4 ∈ GW := GW_at 143 (by decide +kernel) (by decide +kernel)
theorem wf_RX3_44 : Cond.fieldLink RX3 44 (TX3 15).1 (TX3 15).2.1 (TX3 15).2.2.1 ∈ GW := GW_at 215 (by decide +kernel) (by decide +kernel)
theorem wo_RX0_3 : Cond.methodLink RX0 3 objectInit ∈ GW := GW_at 289 (by decide +kernel) (by decide +kernel)
theorem wf_RX0_9 : Cond.fieldLink RX0 9 (TX0 0).1 (TX0 0).2.1 (TX0 0).2.2.1 ∈ GW := GW_at 321 (by decide +kernel) (by decide +kernel)
theorem wk_RX0_15 : Cond.classLink RX0 15 RX6 ∈ GW := GW_at 290 (by decide +kernel) (by decide +kernel)
theorem wl_RX0_17 : Cond.methodLink RX0 17 yX6_init ∈ GW := GW_at 292 (by decide +kernel) (by decide +kernel)
theorem wf_RX0_20 : Cond.fieldLink RX0 20 (TX0 2).1 (TX0 2).2.1 (TX0 2).2.2.1 ∈ GW := GW_at 327 (by decide +kernel) (by decide +kernel)
theorem wf_RX0_24 : Cond.fieldLink RX0 24 (TX0 3).1 (TX0 3).2.1 (TX0 3).2.2.1 ∈ GW := GW_at 330 (by decide +kernel) (by decide +kernel)
theorem wf_RX0_27 : Cond.fieldLink RX0 27 (TX0 4).1 (TX0 4).2.1 (TX0 4).2.2.1 ∈ GW := GW_at 333 (by decide +kernel) (by decide +kernel)
theorem wf_RX0_30 : Cond.fieldLink RX0 30 (TX0 5).1 (TX0 5).2.1 (TX0 5).2.2.1 ∈ GW := GW_at 336 (by decide +kernel) (by decide +kernel)
theorem wf_RX0_33 : Cond.fieldLink RX0 33 (TX0 6).1 (TX0 6).2.1 (TX0 6).2.2.1 ∈ GW := GW_at 338 (by decide +kernel) (by decide +kernel)
theorem wf_RX0_36 : Cond.fieldLink RX0 36 (TX0 7).1 (TX0 7).2.1 (TX0 7).2.2.1 ∈ GW := GW_at 341 (by decide +kernel) (by decide +kernel)
theorem wo_RX1_3 : Cond.methodLink RX1 3 objectInit ∈ GW := GW_at 365 (by decide +kernel) (by decide +kernel)
theorem wk_RX1_9 : Cond.classLink RX1 9 "[[I" ∈ GW := GW_at 366 (by decide +kernel) (by decide +kernel)
theorem wf_RX1_11 : Cond.fieldLink RX1 11 (TX1 3).1 (TX1 3).2.1 (TX1 3).2.2.1 ∈ GW := GW_at 371 (by decide +kernel) (by decide +kernel)
theorem wf_RX1_16 : Cond.fieldLink RX1 16 (TX1 4).1 (TX1 4).2.1 (TX1 4).2.2.1 ∈ GW := GW_at 372 (by decide +kernel) (by decide +kernel)
theorem wf_RX1_19 : Cond.fieldLink RX1 19 (TX1 5).1 (TX1 5).2.1 (TX1 5).2.2.1 ∈ GW := GW_at 374 (by decide +kernel) (by decide +kernel)
theorem wf_RX1_22 : Cond.fieldLink RX1 22 (TX1 6).1 (TX1 6).2.1 (TX1 6).2.2.1 ∈ GW := GW_at 376 (by decide +kernel) (by decide +kernel)
theorem wf_RX1_25 : Cond.fieldLink RX1 25 (TX1 7).1 (TX1 7).2.1 (TX1 7).2.2.1 ∈ GW := GW_at 378 (by decide +kernel) (by decide +kernel)
theorem wf_RX1_28 : Cond.fieldLink RX1 28 (TX1 8).1 (TX1 8).2.1 (TX1 8).2.2.1 ∈ GW := GW_at 380 (by decide +kernel) (by decide +kernel)
theorem wf_RX1_32 : Cond.fieldLink RX1 32 (TX1 9).1 (TX1 9).2.1 (TX1 9).2.2.1 ∈ GW := GW_at 381 (by decide +kernel) (by decide +kernel)
theorem wf_RX1_35 : Cond.fieldLink RX1 35 (TX1 10).1 (TX1 10).2.1 (TX1 10).2.2.1 ∈ GW := GW_at 383 (by decide +kernel) (by decide +kernel)
theorem wf_RX1_38 : Cond.fieldLink RX1 38 (TX1 11).1 (TX1 11).2.1 (TX1 11).2.2.1 ∈ GW := GW_at 385 (by decide +kernel) (by decide +kernel)
theorem wf_RX1_41 : Cond.fieldLink RX1 41 (TX1 12).1 (TX1 12).2.1 (TX1 12).2.2.1 ∈ GW := GW_at 386 (by decide +kernel) (by decide +kernel)
theorem wf_RX1_44 : Cond.fieldLink RX1 44 (TX1 0).1 (TX1 0).2.1 (TX1 0).2.2.1 ∈ GW := GW_at 367 (by decide +kernel) (by decide +kernel)
theorem wf_RX1_48 : Cond.fieldLink RX1 48 (TX1 1).1 (TX1 1).2.1 (TX1 1).2.2.1 ∈ GW := GW_at 368 (by decide +kernel) (by decide +kernel)
theorem wo_RX5_3 : Cond.methodLink RX5 3 objectInit ∈ GW := GW_at 256 (by decide +kernel) (by decide +kernel)
theorem wf_RX5_9 : Cond.fieldLink RX5 9 (TX5 1).1 (TX5 1).2.1 (TX5 1).2.2.1 ∈ GW := GW_at 259 (by decide +kernel) (by decide +kernel)
theorem wf_RX5_15 : Cond.fieldLink RX5 15 (TX5 2).1 (TX5 2).2.1 (TX5 2).2.2.1 ∈ GW := GW_at 261 (by decide +kernel) (by decide +kernel)
theorem wf_RX5_19 : Cond.fieldLink RX5 19 (TX5 4).1 (TX5 4).2.1 (TX5 4).2.2.1 ∈ GW := GW_at 263 (by decide +kernel) (by decide +kernel)
def L4 (z : Nat) : List Id3 := [(4, z, 0)] ++ [(41, z, 0)] ++ [(42, z, 0)] ++ [(43, z, 0)]
def L6 (w : Nat) : List Id3 := [(6, w, 0)] ++ [(44, w, 0)] ++ [(45, w, 0)] ++ [(46, w, 0)]
def L3 (z : Nat) : List Id3 := [(3, z, 0)] ++ ((27, z, 0) :: (List.range 9).map (fun k => (28, z, k))) ++ ((29, z, 0) :: (List.range 9).map (fun k => (30, z, k))) ++ ((31, z, 0) :: (List.range 9).map (fun k => (32, z, k))) ++ [(33, z, 0)] ++ [(34, z, 0)] ++ [(35, z, 0)] ++ [(36, z, 0)] ++ ((37, z, 0) :: (List.range 5).map (fun k => (38, z, k))) ++ ((39, z, 0) :: (List.range 6).map (fun k => (40, z, k))) ++ (L4 z)
def L0_0 : List Id3 := [(0, 0, 0)] ++ [(9, 0, 0)] ++ (L6 0) ++ (L6 1) ++ (L6 2) ++ (L6 3) ++ (L6 4) ++ [(10, 0, 0)]
def L0_1 : List Id3 := [(0, 1, 0)] ++ [(9, 1, 0)] ++ (L6 5) ++ (L6 6) ++ (L6 7) ++ (L6 8) ++ (L6 9) ++ [(10, 1, 0)]
def L1 (z : Nat) : List Id3 := [(1, z, 0)] ++ ((11, z, 0) :: (List.range 5).map (fun k => (12, z, k))) ++ ((13, z, 0) :: (List.range 5).map (fun k => (14, z, k))) ++ ((15, z, 0) :: (List.range 6).map (fun k => (16, z, k))) ++ ((17, z, 0) :: (List.range 6).map (fun k => (18, z, k))) ++ ((19, z, 0) :: (List.range 6).map (fun k => (20, z, k))) ++ [(21, z, 0)] ++ ((22, z, 0) :: (List.range 5).map (fun k => (23, z, k))) ++ [(24, z, 0)] ++ [(25, z, 0)] ++ [(26, z, 0)]
def L5 : List Id3 := [(5, 0, 0)]
theorem m_X4_init {pre : (Nat → ClassId) → va_W} {t z : Nat} : CMet yX4_init cX4_init 1 1 120 [.ref t] (fun cy => pre cy ++ [(t, .inr (4, [.null, .int 0, .null, .null]))]) (fun cy ad0 ws1 => ∃ ad : Id3 → Nat, ad (4, z, 0) = t ∧ ws1 = pre cy ++ cw ad cy (L4 z)) 
  := c_meth (by decide) rfl rfl (Nat.le_of_ble_eq_true rfl) rfl (fun X Q E => by
  refine c_aload (pc := 0) 0 dX4_init_0 rfl ?_
  refine c_obj (pc := 1) wo_RX4_3 (by decide) (Nat.le_of_ble_eq_true rfl) dX4_init_1 ?_
  refine c_aload (pc := 4) 0 dX4_init_4 rfl ?_
  refine c_sipush (pc := 5) 600 dX4_init_5 (by decide) ?_
  refine c_newI0 (pc := 8) (600) dX4_init_8 (by decide) (by decide) (by decide) (by decide) (by decide) (fun q1 => ?_)
  refine c_putF0 (pc := 10) (j := 0) (fs' := [.ref q1, .int 0, .null, .null]) clX4 (by decide) wf_RX4_9 rfl rfl rfl rfl rfl rfl dX4_init_10 ?_
  refine c_aload (pc := 13) 0 dX4_init_13 rfl ?_
  refine c_bipush (pc := 14) 40 dX4_init_14 (by decide) ?_
  refine c_newI0 (pc := 16) (40) dX4_init_16 (by decide) (by decide) (by decide) (by decide) (by decide) (fun q2 => ?_)
  refine c_putF0 (pc := 18) (j := 2) (fs' := [.ref q1, .int 0, .ref q2, .null]) clX4 (by decide) wf_RX4_15 rfl rfl rfl rfl rfl rfl dX4_init_18 ?_
  refine c_aload (pc := 21) 0 dX4_init_21 rfl ?_
  refine c_iconst (pc := 22) 5 dX4_init_22 (by decide) ?_
  refine c_newI0 (pc := 23) (5) dX4_init_23 (by decide) (by decide) (by decide) (by decide) (by decide) (fun q3 => ?_)
  refine c_putF0 (pc := 25) (j := 3) (fs' := [.ref q1, .int 0, .ref q2, .ref q3]) clX4 (by decide) wf_RX4_18 rfl rfl rfl rfl rfl rfl dX4_init_25 ?_
  refine c_ret (pc := 28) dX4_init_28 (by decide) (by decide) ?_ E
  refine ⟨fun i => if i.1 = 4 then t else if i.1 = 41 then q1 else if i.1 = 42 then q2 else if i.1 = 43 then q3 else 0, rfl, congrArg (pre (cyX X) ++ ·) ?_⟩
  rfl)
theorem m_X6_init {pre : (Nat → ClassId) → va_W} {t w : Nat} {x : Int32} (h0 : ¬ jmax x 1 < 0) (hN : (jmax x 1).toNatClampNeg = rowsLen w) (h40 : rowsLen w ≤ 40) : CMet yX6_init cX6_init 3 1 20 [.ref t, .int x] (fun cy => pre cy ++ [(t, .inr (6, [.null, .null, .null, .int 0]))]) (fun cy ad0 ws1 => ∃ ad : Id3 → Nat, ad (6, w, 0) = t ∧ ws1 = pre cy ++ cw ad cy (L6 w)) 
  := c_meth (by decide) rfl rfl (Nat.le_of_ble_eq_true rfl) rfl (fun X Q E => by
  refine c_aload (pc := 0) 0 dX6_init_0 rfl ?_
  refine c_obj (pc := 1) wo_RX6_1 (by decide) (Nat.le_of_ble_eq_true rfl) dX6_init_1 ?_
  refine c_iload (pc := 4) 1 dX6_init_4 rfl ?_
  refine c_iconst (pc := 5) 1 dX6_init_5 (by decide) ?_
  refine c_max (pc := 6) dX6_init_6 wl_RX6_7 (by decide) (Nat.le_of_ble_eq_true rfl) (by decide) (by decide) ?_
  refine c_istore (pc := 9) (lv' := [(2, .int (jmax x 1)), (0, .ref t), (1, .int (x))]) dX6_init_9 (by decide) rfl ?_
  refine c_aload (pc := 10) 1 dX6_init_10 rfl ?_
  refine c_iload (pc := 11) 0 dX6_init_11 rfl ?_
  refine c_newI0 (pc := 12) (rowsLen w) dX6_init_12 h0 hN (by omega) (by decide) (by omega) (fun q1 => ?_)
  refine c_putF0 (pc := 14) (j := 0) (fs' := [.ref q1, .null, .null, .int 0]) clX6 (by decide) wf_RX6_13 rfl rfl rfl rfl rfl rfl dX6_init_14 ?_
  refine c_aload (pc := 17) 1 dX6_init_17 rfl ?_
  refine c_iload (pc := 18) 0 dX6_init_18 rfl ?_
  refine c_newI0 (pc := 19) (rowsLen w) dX6_init_19 h0 hN (by omega) (by decide) (by omega) (fun q2 => ?_)
  refine c_putF0 (pc := 21) (j := 1) (fs' := [.ref q1, .ref q2, .null, .int 0]) clX6 (by decide) wf_RX6_19 rfl rfl rfl rfl rfl rfl dX6_init_21 ?_
  refine c_aload (pc := 24) 1 dX6_init_24 rfl ?_
  refine c_iload (pc := 25) 0 dX6_init_25 rfl ?_
  refine c_newI0 (pc := 26) (rowsLen w) dX6_init_26 h0 hN (by omega) (by decide) (by omega) (fun q3 => ?_)
  refine c_putF0 (pc := 28) (j := 2) (fs' := [.ref q1, .ref q2, .ref q3, .int 0]) clX6 (by decide) wf_RX6_22 rfl rfl rfl rfl rfl rfl dX6_init_28 ?_
  refine c_ret (pc := 31) dX6_init_31 (by decide) (by omega) ?_ E
  refine ⟨fun i => if i.1 = 6 then t else if i.1 = 44 then q1 else if i.1 = 45 then q2 else if i.1 = 46 then q3 else 0, rfl, congrArg (pre (cyX X) ++ ·) ?_⟩
  rfl)
theorem m_X3_init {pre : (Nat → ClassId) → va_W} {t z : Nat} : CMet yX3_init cX3_init 1 2 240 [.ref t] (fun cy => pre cy ++ [(t, .inr (3, [.int 0, .int 0, .int 0, .int 0, .null, .null, .null, .int 0, .null, .null, .null, .null, .null, .int 0, .null, .null]))]) (fun cy ad0 ws1 => ∃ ad : Id3 → Nat, ad (3, z, 0) = t ∧ ws1 = pre cy ++ cw ad cy (L3 z)) 
  := c_meth (by decide) rfl rfl (Nat.le_of_ble_eq_true rfl) rfl (fun X Q E => by
  refine c_aload (pc := 0) 0 dX3_init_0 rfl ?_
  refine c_obj (pc := 1) wo_RX3_3 (by decide) (Nat.le_of_ble_eq_true rfl) dX3_init_1 ?_
  refine c_aload (pc := 4) 0 dX3_init_4 rfl ?_
  refine c_bipush (pc := 5) 9 dX3_init_5 (by decide) ?_
  refine c_bipush (pc := 7) 9 dX3_init_7 (by decide) ?_
  refine c_newH0 (pc := 9) 9 9 wk_RX3_9 dX3_init_9 (by decide) (by decide) (by decide) (by decide) (by decide) (by decide) (by decide) (by decide) (fun q1 r1 => ?_)
  refine c_putF0 (pc := 13) (j := 4) (fs' := [.int 0, .int 0, .int 0, .int 0, .ref q1, .null, .null, .int 0, .null, .null, .null, .null, .null, .int 0, .null, .null]) clX3 (by decide) wf_RX3_11 rfl rfl rfl rfl rfl rfl dX3_init_13 ?_
  refine c_aload (pc := 16) 0 dX3_init_16 rfl ?_
  refine c_bipush (pc := 17) 9 dX3_init_17 (by decide) ?_
  refine c_bipush (pc := 19) 9 dX3_init_19 (by decide) ?_
  refine c_newH0 (pc := 21) 9 9 wk_RX3_9 dX3_init_21 (by decide) (by decide) (by decide) (by decide) (by decide) (by decide) (by decide) (by decide) (fun q2 r2 => ?_)
  refine c_putF0 (pc := 25) (j := 5) (fs' := [.int 0, .int 0, .int 0, .int 0, .ref q1, .ref q2, .null, .int 0, .null, .null, .null, .null, .null, .int 0, .null, .null]) clX3 (by decide) wf_RX3_16 rfl rfl rfl rfl rfl rfl dX3_init_25 ?_
  refine c_aload (pc := 28) 0 dX3_init_28 rfl ?_
  refine c_bipush (pc := 29) 9 dX3_init_29 (by decide) ?_
  refine c_bipush (pc := 31) 9 dX3_init_31 (by decide) ?_
  refine c_newH0 (pc := 33) 9 9 wk_RX3_9 dX3_init_33 (by decide) (by decide) (by decide) (by decide) (by decide) (by decide) (by decide) (by decide) (fun q3 r3 => ?_)
  refine c_putF0 (pc := 37) (j := 6) (fs' := [.int 0, .int 0, .int 0, .int 0, .ref q1, .ref q2, .ref q3, .int 0, .null, .null, .null, .null, .null, .int 0, .null, .null]) clX3 (by decide) wf_RX3_19 rfl rfl rfl rfl rfl rfl dX3_init_37 ?_
  refine c_aload (pc := 40) 0 dX3_init_40 rfl ?_
  refine c_iconst (pc := 41) 5 dX3_init_41 (by decide) ?_
  refine c_newI0 (pc := 42) (5) dX3_init_42 (by decide) (by decide) (by decide) (by decide) (by decide) (fun q4 => ?_)
  refine c_putF0 (pc := 44) (j := 8) (fs' := [.int 0, .int 0, .int 0, .int 0, .ref q1, .ref q2, .ref q3, .int 0, .ref q4, .null, .null, .null, .null, .int 0, .null, .null]) clX3 (by decide) wf_RX3_22 rfl rfl rfl rfl rfl rfl dX3_init_44 ?_
  refine c_aload (pc := 47) 0 dX3_init_47 rfl ?_
  refine c_iconst (pc := 48) 5 dX3_init_48 (by decide) ?_
  refine c_newI0 (pc := 49) (5) dX3_init_49 (by decide) (by decide) (by decide) (by decide) (by decide) (fun q5 => ?_)
  refine c_putF0 (pc := 51) (j := 9) (fs' := [.int 0, .int 0, .int 0, .int 0, .ref q1, .ref q2, .ref q3, .int 0, .ref q4, .ref q5, .null, .null, .null, .int 0, .null, .null]) clX3 (by decide) wf_RX3_26 rfl rfl rfl rfl rfl rfl dX3_init_51 ?_
  refine c_aload (pc := 54) 0 dX3_init_54 rfl ?_
  refine c_iconst (pc := 55) 5 dX3_init_55 (by decide) ?_
  refine c_newI0 (pc := 56) (5) dX3_init_56 (by decide) (by decide) (by decide) (by decide) (by decide) (fun q6 => ?_)
  refine c_putF0 (pc := 58) (j := 10) (fs' := [.int 0, .int 0, .int 0, .int 0, .ref q1, .ref q2, .ref q3, .int 0, .ref q4, .ref q5, .ref q6, .null, .null, .int 0, .null, .null]) clX3 (by decide) wf_RX3_29 rfl rfl rfl rfl rfl rfl dX3_init_58 ?_
  refine c_aload (pc := 61) 0 dX3_init_61 rfl ?_
  refine c_iconst (pc := 62) 5 dX3_init_62 (by decide) ?_
  refine c_newI0 (pc := 63) (5) dX3_init_63 (by decide) (by decide) (by decide) (by decide) (by decide) (fun q7 => ?_)
  refine c_putF0 (pc := 65) (j := 11) (fs' := [.int 0, .int 0, .int 0, .int 0, .ref q1, .ref q2, .ref q3, .int 0, .ref q4, .ref q5, .ref q6, .ref q7, .null, .int 0, .null, .null]) clX3 (by decide) wf_RX3_32 rfl rfl rfl rfl rfl rfl dX3_init_65 ?_
  refine c_aload (pc := 68) 0 dX3_init_68 rfl ?_
  refine c_iconst (pc := 69) 5 dX3_init_69 (by decide) ?_
  refine c_bipush (pc := 70) 7 dX3_init_70 (by decide) ?_
  refine c_newH0 (pc := 72) 5 7 wk_RX3_9 dX3_init_72 (by decide) (by decide) (by decide) (by decide) (by decide) (by decide) (by decide) (by decide) (fun q8 r8 => ?_)
  refine c_putF0 (pc := 76) (j := 12) (fs' := [.int 0, .int 0, .int 0, .int 0, .ref q1, .ref q2, .ref q3, .int 0, .ref q4, .ref q5, .ref q6, .ref q7, .ref q8, .int 0, .null, .null]) clX3 (by decide) wf_RX3_35 rfl rfl rfl rfl rfl rfl dX3_init_76 ?_
  refine c_aload (pc := 79) 0 dX3_init_79 rfl ?_
  refine c_bipush (pc := 80) 6 dX3_init_80 (by decide) ?_
  refine c_bipush (pc := 82) 9 dX3_init_82 (by decide) ?_
  refine c_newH0 (pc := 84) 6 9 wk_RX3_9 dX3_init_84 (by decide) (by decide) (by decide) (by decide) (by decide) (by decide) (by decide) (by decide) (fun q9 r9 => ?_)
  refine c_putF0 (pc := 88) (j := 14) (fs' := [.int 0, .int 0, .int 0, .int 0, .ref q1, .ref q2, .ref q3, .int 0, .ref q4, .ref q5, .ref q6, .ref q7, .ref q8, .int 0, .ref q9, .null]) clX3 (by decide) wf_RX3_38 rfl rfl rfl rfl rfl rfl dX3_init_88 ?_
  refine c_aload (pc := 91) 0 dX3_init_91 rfl ?_
  refine c_newO0 (pc := 92) [.null, .int 0, .null, .null] clX4 wk_RX3_41 wi_4 wN_X4 df_4 dX3_init_92 (by decide) (by decide) (fun q10 => ?_)
  refine c_dup (pc := 95) dX3_init_95 rfl ?_
  refine c_call (pc := 96) (na := 0) (a := q10) (As := []) (m_X4_init (z := z) (pre := (fun cy => pre cy ++ (t, .inr (3, [.int 0, .int 0, .int 0, .int 0, .ref q1, .ref q2, .ref q3, .int 0, .ref q4, .ref q5, .ref q6, .ref q7, .ref q8, .int 0, .ref q9, .null])) :: ((((((((([] ++ gr cy q1 r1 9 9) ++ gr cy q2 r2 9 9) ++ gr cy q3 r3 9 9) ++ [(q4, .inl (cy 0, 5, .inl (fun _ => 0)))]) ++ [(q5, .inl (cy 0, 5, .inl (fun _ => 0)))]) ++ [(q6, .inl (cy 0, 5, .inl (fun _ => 0)))]) ++ [(q7, .inl (cy 0, 5, .inl (fun _ => 0)))]) ++ gr cy q8 r8 5 7) ++ gr cy q9 r9 6 9)))) wN_X4 wI_X4_init wC_X4_init rfl (Or.inr (fun _ h => h.2.1)) (by decide +kernel) (by decide) dX3_init_96 rfl (by decide) (Nat.le_of_ble_eq_true rfl) (by decide) (by decide) rfl (ap9 _ _ _ _) ?_
  rintro _ ⟨ad1, e1_0, rfl⟩
  subst e1_0
  rw [← ap9]
  refine c_putF0 (pc := 99) (j := 15) (fs' := [.int 0, .int 0, .int 0, .int 0, .ref q1, .ref q2, .ref q3, .int 0, .ref q4, .ref q5, .ref q6, .ref q7, .ref q8, .int 0, .ref q9, .ref (ad1 (4, z, 0))]) clX3 (by decide) wf_RX3_44 rfl rfl rfl rfl rfl rfl dX3_init_99 ?_
  refine c_ret (pc := 102) dX3_init_102 (by decide) (by decide) ?_ E
  refine ⟨fun i => if i.1 = 3 then t else if i.1 = 27 then q1 else if i.1 = 28 then r1 i.2.2 else if i.1 = 29 then q2 else if i.1 = 30 then r2 i.2.2 else if i.1 = 31 then q3 else if i.1 = 32 then r3 i.2.2 else if i.1 = 33 then q4 else if i.1 = 34 then q5 else if i.1 = 35 then q6 else if i.1 = 36 then q7 else if i.1 = 37 then q8 else if i.1 = 38 then r8 i.2.2 else if i.1 = 39 then q9 else if i.1 = 40 then r9 i.2.2 else ad1 i, rfl, congrArg (pre (cyX X) ++ ·) ?_⟩
  rfl)
theorem m_X0_init_0 {pre : (Nat → ClassId) → va_W} {t : Nat} : CMet yX0_init cX0_init 1 2 130 [.ref t] (fun cy => pre cy ++ [(t, .inr (0, [.null, .int 0, .null, .null, .null, .null, .null, .null]))]) (fun cy ad0 ws1 => ∃ ad : Id3 → Nat, ad (0, 0, 0) = t ∧ ws1 = pre cy ++ cw ad cy (L0_0)) 
  := c_meth (by decide) rfl rfl (Nat.le_of_ble_eq_true rfl) rfl (fun X Q E => by
  refine c_aload (pc := 0) 0 dX0_init_0 rfl ?_
  refine c_obj (pc := 1) wo_RX0_3 (by decide) (Nat.le_of_ble_eq_true rfl) dX0_init_1 ?_
  refine c_aload (pc := 4) 0 dX0_init_4 rfl ?_
  refine c_iconst (pc := 5) 5 dX0_init_5 (by decide) ?_
  refine c_newI0 (pc := 6) (5) dX0_init_6 (by decide) (by decide) (by decide) (by decide) (by decide) (fun q1 => ?_)
  refine c_putF0 (pc := 8) (j := 0) (fs' := [.ref q1, .int 0, .null, .null, .null, .null, .null, .null]) clX0 (by decide) wf_RX0_9 rfl rfl rfl rfl rfl rfl dX0_init_8 ?_
  refine c_aload (pc := 11) 0 dX0_init_11 rfl ?_
  refine c_newO0 (pc := 12) [.null, .null, .null, .int 0] clX6 wk_RX0_15 wi_6 wN_X6 df_6 dX0_init_12 (by decide) (by decide) (fun q2 => ?_)
  refine c_dup (pc := 15) dX0_init_15 rfl ?_
  refine c_iconst (pc := 16) 4 dX0_init_16 (by decide) ?_
  refine c_call (pc := 17) (na := 1) (a := q2) (As := [.int 4]) (m_X6_init (w := 0) (pre := (fun cy => pre cy ++ (t, .inr (0, [.ref q1, .int 0, .null, .null, .null, .null, .null, .null])) :: ([] ++ [(q1, .inl (cy 0, 5, .inl (fun _ => 0)))]))) (by decide) (by decide) (by decide)) wN_X6 wI_X6_init wC_X6_init rfl (Or.inl wl_RX0_17) (by decide +kernel) (by decide) dX0_init_17 rfl (by decide) (Nat.le_of_ble_eq_true rfl) (by decide) (by decide) rfl (ap9 _ _ _ _) ?_
  rintro _ ⟨ad1, e1_0, rfl⟩
  subst e1_0
  rw [← ap9]
  refine c_putF0 (pc := 20) (j := 2) (fs' := [.ref q1, .int 0, .ref (ad1 (6, 0, 0)), .null, .null, .null, .null, .null]) clX0 (by decide) wf_RX0_20 rfl rfl rfl rfl rfl rfl dX0_init_20 ?_
  refine c_aload (pc := 23) 0 dX0_init_23 rfl ?_
  refine c_newO0 (pc := 24) [.null, .null, .null, .int 0] clX6 wk_RX0_15 wi_6 wN_X6 df_6 dX0_init_24 (by decide) (by decide) (fun q3 => ?_)
  refine c_dup (pc := 27) dX0_init_27 rfl ?_
  refine c_iconst (pc := 28) 4 dX0_init_28 (by decide) ?_
  refine c_call (pc := 29) (na := 1) (a := q3) (As := [.int 4]) (m_X6_init (w := 1) (pre := (fun cy => pre cy ++ (t, .inr (0, [.ref q1, .int 0, .ref (ad1 (6, 0, 0)), .null, .null, .null, .null, .null])) :: (([] ++ [(q1, .inl (cy 0, 5, .inl (fun _ => 0)))]) ++ cw ad1 cy (L6 0)))) (by decide) (by decide) (by decide)) wN_X6 wI_X6_init wC_X6_init rfl (Or.inl wl_RX0_17) (by decide +kernel) (by decide) dX0_init_29 rfl (by decide) (Nat.le_of_ble_eq_true rfl) (by decide) (by decide) rfl (ap9 _ _ _ _) ?_
  rintro _ ⟨ad2, e2_0, rfl⟩
  subst e2_0
  rw [← ap9]
  refine c_putF0 (pc := 32) (j := 3) (fs' := [.ref q1, .int 0, .ref (ad1 (6, 0, 0)), .ref (ad2 (6, 1, 0)), .null, .null, .null, .null]) clX0 (by decide) wf_RX0_24 rfl rfl rfl rfl rfl rfl dX0_init_32 ?_
  refine c_aload (pc := 35) 0 dX0_init_35 rfl ?_
  refine c_newO0 (pc := 36) [.null, .null, .null, .int 0] clX6 wk_RX0_15 wi_6 wN_X6 df_6 dX0_init_36 (by decide) (by decide) (fun q4 => ?_)
  refine c_dup (pc := 39) dX0_init_39 rfl ?_
  refine c_iconst (pc := 40) 4 dX0_init_40 (by decide) ?_
  refine c_call (pc := 41) (na := 1) (a := q4) (As := [.int 4]) (m_X6_init (w := 2) (pre := (fun cy => pre cy ++ (t, .inr (0, [.ref q1, .int 0, .ref (ad1 (6, 0, 0)), .ref (ad2 (6, 1, 0)), .null, .null, .null, .null])) :: ((([] ++ [(q1, .inl (cy 0, 5, .inl (fun _ => 0)))]) ++ cw ad1 cy (L6 0)) ++ cw ad2 cy (L6 1)))) (by decide) (by decide) (by decide)) wN_X6 wI_X6_init wC_X6_init rfl (Or.inl wl_RX0_17) (by decide +kernel) (by decide) dX0_init_41 rfl (by decide) (Nat.le_of_ble_eq_true rfl) (by decide) (by decide) rfl (ap9 _ _ _ _) ?_
  rintro _ ⟨ad3, e3_0, rfl⟩
  subst e3_0
  rw [← ap9]
  refine c_putF0 (pc := 44) (j := 4) (fs' := [.ref q1, .int 0, .ref (ad1 (6, 0, 0)), .ref (ad2 (6, 1, 0)), .ref (ad3 (6, 2, 0)), .null, .null, .null]) clX0 (by decide) wf_RX0_27 rfl rfl rfl rfl rfl rfl dX0_init_44 ?_
  refine c_aload (pc := 47) 0 dX0_init_47 rfl ?_
  refine c_newO0 (pc := 48) [.null, .null, .null, .int 0] clX6 wk_RX0_15 wi_6 wN_X6 df_6 dX0_init_48 (by decide) (by decide) (fun q5 => ?_)
  refine c_dup (pc := 51) dX0_init_51 rfl ?_
  refine c_bipush (pc := 52) 40 dX0_init_52 (by decide) ?_
  refine c_call (pc := 54) (na := 1) (a := q5) (As := [.int 40]) (m_X6_init (w := 3) (pre := (fun cy => pre cy ++ (t, .inr (0, [.ref q1, .int 0, .ref (ad1 (6, 0, 0)), .ref (ad2 (6, 1, 0)), .ref (ad3 (6, 2, 0)), .null, .null, .null])) :: (((([] ++ [(q1, .inl (cy 0, 5, .inl (fun _ => 0)))]) ++ cw ad1 cy (L6 0)) ++ cw ad2 cy (L6 1)) ++ cw ad3 cy (L6 2)))) (by decide) (by decide) (by decide)) wN_X6 wI_X6_init wC_X6_init rfl (Or.inl wl_RX0_17) (by decide +kernel) (by decide) dX0_init_54 rfl (by decide) (Nat.le_of_ble_eq_true rfl) (by decide) (by decide) rfl (ap9 _ _ _ _) ?_
  rintro _ ⟨ad4, e4_0, rfl⟩
  subst e4_0
  rw [← ap9]
  refine c_putF0 (pc := 57) (j := 5) (fs' := [.ref q1, .int 0, .ref (ad1 (6, 0, 0)), .ref (ad2 (6, 1, 0)), .ref (ad3 (6, 2, 0)), .ref (ad4 (6, 3, 0)), .null, .null]) clX0 (by decide) wf_RX0_30 rfl rfl rfl rfl rfl rfl dX0_init_57 ?_
  refine c_aload (pc := 60) 0 dX0_init_60 rfl ?_
  refine c_newO0 (pc := 61) [.null, .null, .null, .int 0] clX6 wk_RX0_15 wi_6 wN_X6 df_6 dX0_init_61 (by decide) (by decide) (fun q6 => ?_)
  refine c_dup (pc := 64) dX0_init_64 rfl ?_
  refine c_bipush (pc := 65) 8 dX0_init_65 (by decide) ?_
  refine c_call (pc := 67) (na := 1) (a := q6) (As := [.int 8]) (m_X6_init (w := 4) (pre := (fun cy => pre cy ++ (t, .inr (0, [.ref q1, .int 0, .ref (ad1 (6, 0, 0)), .ref (ad2 (6, 1, 0)), .ref (ad3 (6, 2, 0)), .ref (ad4 (6, 3, 0)), .null, .null])) :: ((((([] ++ [(q1, .inl (cy 0, 5, .inl (fun _ => 0)))]) ++ cw ad1 cy (L6 0)) ++ cw ad2 cy (L6 1)) ++ cw ad3 cy (L6 2)) ++ cw ad4 cy (L6 3)))) (by decide) (by decide) (by decide)) wN_X6 wI_X6_init wC_X6_init rfl (Or.inl wl_RX0_17) (by decide +kernel) (by decide) dX0_init_67 rfl (by decide) (Nat.le_of_ble_eq_true rfl) (by decide) (by decide) rfl (ap9 _ _ _ _) ?_
  rintro _ ⟨ad5, e5_0, rfl⟩
  subst e5_0
  rw [← ap9]
  refine c_putF0 (pc := 70) (j := 6) (fs' := [.ref q1, .int 0, .ref (ad1 (6, 0, 0)), .ref (ad2 (6, 1, 0)), .ref (ad3 (6, 2, 0)), .ref (ad4 (6, 3, 0)), .ref (ad5 (6, 4, 0)), .null]) clX0 (by decide) wf_RX0_33 rfl rfl rfl rfl rfl rfl dX0_init_70 ?_
  refine c_aload (pc := 73) 0 dX0_init_73 rfl ?_
  refine c_iconst (pc := 74) 3 dX0_init_74 (by decide) ?_
  refine c_newI0 (pc := 75) (3) dX0_init_75 (by decide) (by decide) (by decide) (by decide) (by decide) (fun q7 => ?_)
  refine c_putF0 (pc := 77) (j := 7) (fs' := [.ref q1, .int 0, .ref (ad1 (6, 0, 0)), .ref (ad2 (6, 1, 0)), .ref (ad3 (6, 2, 0)), .ref (ad4 (6, 3, 0)), .ref (ad5 (6, 4, 0)), .ref q7]) clX0 (by decide) wf_RX0_36 rfl rfl rfl rfl rfl rfl dX0_init_77 ?_
  refine c_ret (pc := 80) dX0_init_80 (by decide) (by decide) ?_ E
  refine ⟨fun i => if i.1 = 0 then t else if i.1 = 9 then q1 else if i.1 = 10 then q7 else if i.2.1 = 0 then ad1 i else if i.2.1 = 1 then ad2 i else if i.2.1 = 2 then ad3 i else if i.2.1 = 3 then ad4 i else ad5 i, rfl, congrArg (pre (cyX X) ++ ·) ?_⟩
  rfl)
theorem m_X0_init_1 {pre : (Nat → ClassId) → va_W} {t : Nat} : CMet yX0_init cX0_init 1 2 130 [.ref t] (fun cy => pre cy ++ [(t, .inr (0, [.null, .int 0, .null, .null, .null, .null, .null, .null]))]) (fun cy ad0 ws1 => ∃ ad : Id3 → Nat, ad (0, 1, 0) = t ∧ ws1 = pre cy ++ cw ad cy (L0_1)) 
  := c_meth (by decide) rfl rfl (Nat.le_of_ble_eq_true rfl) rfl (fun X Q E => by
  refine c_aload (pc := 0) 0 dX0_init_0 rfl ?_
  refine c_obj (pc := 1) wo_RX0_3 (by decide) (Nat.le_of_ble_eq_true rfl) dX0_init_1 ?_
  refine c_aload (pc := 4) 0 dX0_init_4 rfl ?_
  refine c_iconst (pc := 5) 5 dX0_init_5 (by decide) ?_
  refine c_newI0 (pc := 6) (5) dX0_init_6 (by decide) (by decide) (by decide) (by decide) (by decide) (fun q1 => ?_)
  refine c_putF0 (pc := 8) (j := 0) (fs' := [.ref q1, .int 0, .null, .null, .null, .null, .null, .null]) clX0 (by decide) wf_RX0_9 rfl rfl rfl rfl rfl rfl dX0_init_8 ?_
  refine c_aload (pc := 11) 0 dX0_init_11 rfl ?_
  refine c_newO0 (pc := 12) [.null, .null, .null, .int 0] clX6 wk_RX0_15 wi_6 wN_X6 df_6 dX0_init_12 (by decide) (by decide) (fun q2 => ?_)
  refine c_dup (pc := 15) dX0_init_15 rfl ?_
  refine c_iconst (pc := 16) 4 dX0_init_16 (by decide) ?_
  refine c_call (pc := 17) (na := 1) (a := q2) (As := [.int 4]) (m_X6_init (w := 5) (pre := (fun cy => pre cy ++ (t, .inr (0, [.ref q1, .int 0, .null, .null, .null, .null, .null, .null])) :: ([] ++ [(q1, .inl (cy 0, 5, .inl (fun _ => 0)))]))) (by decide) (by decide) (by decide)) wN_X6 wI_X6_init wC_X6_init rfl (Or.inl wl_RX0_17) (by decide +kernel) (by decide) dX0_init_17 rfl (by decide) (Nat.le_of_ble_eq_true rfl) (by decide) (by decide) rfl (ap9 _ _ _ _) ?_
  rintro _ ⟨ad1, e1_0, rfl⟩
  subst e1_0
  rw [← ap9]
  refine c_putF0 (pc := 20) (j := 2) (fs' := [.ref q1, .int 0, .ref (ad1 (6, 5, 0)), .null, .null, .null, .null, .null]) clX0 (by decide) wf_RX0_20 rfl rfl rfl rfl rfl rfl dX0_init_20 ?_
  refine c_aload (pc := 23) 0 dX0_init_23 rfl ?_
  refine c_newO0 (pc := 24) [.null, .null, .null, .int 0] clX6 wk_RX0_15 wi_6 wN_X6 df_6 dX0_init_24 (by decide) (by decide) (fun q3 => ?_)
  refine c_dup (pc := 27) dX0_init_27 rfl ?_
  refine c_iconst (pc := 28) 4 dX0_init_28 (by decide) ?_
  refine c_call (pc := 29) (na := 1) (a := q3) (As := [.int 4]) (m_X6_init (w := 6) (pre := (fun cy => pre cy ++ (t, .inr (0, [.ref q1, .int 0, .ref (ad1 (6, 5, 0)), .null, .null, .null, .null, .null])) :: (([] ++ [(q1, .inl (cy 0, 5, .inl (fun _ => 0)))]) ++ cw ad1 cy (L6 5)))) (by decide) (by decide) (by decide)) wN_X6 wI_X6_init wC_X6_init rfl (Or.inl wl_RX0_17) (by decide +kernel) (by decide) dX0_init_29 rfl (by decide) (Nat.le_of_ble_eq_true rfl) (by decide) (by decide) rfl (ap9 _ _ _ _) ?_
  rintro _ ⟨ad2, e2_0, rfl⟩
  subst e2_0
  rw [← ap9]
  refine c_putF0 (pc := 32) (j := 3) (fs' := [.ref q1, .int 0, .ref (ad1 (6, 5, 0)), .ref (ad2 (6, 6, 0)), .null, .null, .null, .null]) clX0 (by decide) wf_RX0_24 rfl rfl rfl rfl rfl rfl dX0_init_32 ?_
  refine c_aload (pc := 35) 0 dX0_init_35 rfl ?_
  refine c_newO0 (pc := 36) [.null, .null, .null, .int 0] clX6 wk_RX0_15 wi_6 wN_X6 df_6 dX0_init_36 (by decide) (by decide) (fun q4 => ?_)
  refine c_dup (pc := 39) dX0_init_39 rfl ?_
  refine c_iconst (pc := 40) 4 dX0_init_40 (by decide) ?_
  refine c_call (pc := 41) (na := 1) (a := q4) (As := [.int 4]) (m_X6_init (w := 7) (pre := (fun cy => pre cy ++ (t, .inr (0, [.ref q1, .int 0, .ref (ad1 (6, 5, 0)), .ref (ad2 (6, 6, 0)), .null, .null, .null, .null])) :: ((([] ++ [(q1, .inl (cy 0, 5, .inl (fun _ => 0)))]) ++ cw ad1 cy (L6 5)) ++ cw ad2 cy (L6 6)))) (by decide) (by decide) (by decide)) wN_X6 wI_X6_init wC_X6_init rfl (Or.inl wl_RX0_17) (by decide +kernel) (by decide) dX0_init_41 rfl (by decide) (Nat.le_of_ble_eq_true rfl) (by decide) (by decide) rfl (ap9 _ _ _ _) ?_
  rintro _ ⟨ad3, e3_0, rfl⟩
  subst e3_0
  rw [← ap9]
  refine c_putF0 (pc := 44) (j := 4) (fs' := [.ref q1, .int 0, .ref (ad1 (6, 5, 0)), .ref (ad2 (6, 6, 0)), .ref (ad3 (6, 7, 0)), .null, .null, .null]) clX0 (by decide) wf_RX0_27 rfl rfl rfl rfl rfl rfl dX0_init_44 ?_
  refine c_aload (pc := 47) 0 dX0_init_47 rfl ?_
  refine c_newO0 (pc := 48) [.null, .null, .null, .int 0] clX6 wk_RX0_15 wi_6 wN_X6 df_6 dX0_init_48 (by decide) (by decide) (fun q5 => ?_)
  refine c_dup (pc := 51) dX0_init_51 rfl ?_
  refine c_bipush (pc := 52) 40 dX0_init_52 (by decide) ?_
  refine c_call (pc := 54) (na := 1) (a := q5) (As := [.int 40]) (m_X6_init (w := 8) (pre := (fun cy => pre cy ++ (t, .inr (0, [.ref q1, .int 0, .ref (ad1 (6, 5, 0)), .ref (ad2 (6, 6, 0)), .ref (ad3 (6, 7, 0)), .null, .null, .null])) :: (((([] ++ [(q1, .inl (cy 0, 5, .inl (fun _ => 0)))]) ++ cw ad1 cy (L6 5)) ++ cw ad2 cy (L6 6)) ++ cw ad3 cy (L6 7)))) (by decide) (by decide) (by decide)) wN_X6 wI_X6_init wC_X6_init rfl (Or.inl wl_RX0_17) (by decide +kernel) (by decide) dX0_init_54 rfl (by decide) (Nat.le_of_ble_eq_true rfl) (by decide) (by decide) rfl (ap9 _ _ _ _) ?_
  rintro _ ⟨ad4, e4_0, rfl⟩
  subst e4_0
  rw [← ap9]
  refine c_putF0 (pc := 57) (j := 5) (fs' := [.ref q1, .int 0, .ref (ad1 (6, 5, 0)), .ref (ad2 (6, 6, 0)), .ref (ad3 (6, 7, 0)), .ref (ad4 (6, 8, 0)), .null, .null]) clX0 (by decide) wf_RX0_30 rfl rfl rfl rfl rfl rfl dX0_init_57 ?_
  refine c_aload (pc := 60) 0 dX0_init_60 rfl ?_
  refine c_newO0 (pc := 61) [.null, .null, .null, .int 0] clX6 wk_RX0_15 wi_6 wN_X6 df_6 dX0_init_61 (by decide) (by decide) (fun q6 => ?_)
  refine c_dup (pc := 64) dX0_init_64 rfl ?_
  refine c_bipush (pc := 65) 8 dX0_init_65 (by decide) ?_
  refine c_call (pc := 67) (na := 1) (a := q6) (As := [.int 8]) (m_X6_init (w := 9) (pre := (fun cy => pre cy ++ (t, .inr (0, [.ref q1, .int 0, .ref (ad1 (6, 5, 0)), .ref (ad2 (6, 6, 0)), .ref (ad3 (6, 7, 0)), .ref (ad4 (6, 8, 0)), .null, .null])) :: ((((([] ++ [(q1, .inl (cy 0, 5, .inl (fun _ => 0)))]) ++ cw ad1 cy (L6 5)) ++ cw ad2 cy (L6 6)) ++ cw ad3 cy (L6 7)) ++ cw ad4 cy (L6 8)))) (by decide) (by decide) (by decide)) wN_X6 wI_X6_init wC_X6_init rfl (Or.inl wl_RX0_17) (by decide +kernel) (by decide) dX0_init_67 rfl (by decide) (Nat.le_of_ble_eq_true rfl) (by decide) (by decide) rfl (ap9 _ _ _ _) ?_
  rintro _ ⟨ad5, e5_0, rfl⟩
  subst e5_0
  rw [← ap9]
  refine c_putF0 (pc := 70) (j := 6) (fs' := [.ref q1, .int 0, .ref (ad1 (6, 5, 0)), .ref (ad2 (6, 6, 0)), .ref (ad3 (6, 7, 0)), .ref (ad4 (6, 8, 0)), .ref (ad5 (6, 9, 0)), .null]) clX0 (by decide) wf_RX0_33 rfl rfl rfl rfl rfl rfl dX0_init_70 ?_
  refine c_aload (pc := 73) 0 dX0_init_73 rfl ?_
  refine c_iconst (pc := 74) 3 dX0_init_74 (by decide) ?_
  refine c_newI0 (pc := 75) (3) dX0_init_75 (by decide) (by decide) (by decide) (by decide) (by decide) (fun q7 => ?_)
  refine c_putF0 (pc := 77) (j := 7) (fs' := [.ref q1, .int 0, .ref (ad1 (6, 5, 0)), .ref (ad2 (6, 6, 0)), .ref (ad3 (6, 7, 0)), .ref (ad4 (6, 8, 0)), .ref (ad5 (6, 9, 0)), .ref q7]) clX0 (by decide) wf_RX0_36 rfl rfl rfl rfl rfl rfl dX0_init_77 ?_
  refine c_ret (pc := 80) dX0_init_80 (by decide) (by decide) ?_ E
  refine ⟨fun i => if i.1 = 0 then t else if i.1 = 9 then q1 else if i.1 = 10 then q7 else if i.2.1 = 5 then ad1 i else if i.2.1 = 6 then ad2 i else if i.2.1 = 7 then ad3 i else if i.2.1 = 8 then ad4 i else ad5 i, rfl, congrArg (pre (cyX X) ++ ·) ?_⟩
  rfl)
theorem m_X1_init {pre : (Nat → ClassId) → va_W} {t b1 b2 z : Nat} : CMet yX1_init cX1_init 3 1 60 [.ref t, .ref b1, .ref b2] (fun cy => pre cy ++ [(t, .inr (1, [.null, .null, .int 0, .null, .null, .null, .null, .null, .null, .null, .null, .null, .null]))]) (fun cy ad0 ws1 => ∃ ad : Id3 → Nat, ad (1, z, 0) = t ∧ ad (3, 0, 0) = b1 ∧ ad (0, 0, 0) = b2 ∧ ws1 = pre cy ++ cw ad cy (L1 z)) 
  := c_meth (by decide) rfl rfl (Nat.le_of_ble_eq_true rfl) rfl (fun X Q E => by
  refine c_aload (pc := 0) 0 dX1_init_0 rfl ?_
  refine c_obj (pc := 1) wo_RX1_3 (by decide) (Nat.le_of_ble_eq_true rfl) dX1_init_1 ?_
  refine c_aload (pc := 4) 0 dX1_init_4 rfl ?_
  refine c_iconst (pc := 5) 5 dX1_init_5 (by decide) ?_
  refine c_bipush (pc := 6) 7 dX1_init_6 (by decide) ?_
  refine c_newH0 (pc := 8) 5 7 wk_RX1_9 dX1_init_8 (by decide) (by decide) (by decide) (by decide) (by decide) (by decide) (by decide) (by decide) (fun q1 r1 => ?_)
  refine c_putF0 (pc := 12) (j := 3) (fs' := [.null, .null, .int 0, .ref q1, .null, .null, .null, .null, .null, .null, .null, .null, .null]) clX1 (by decide) wf_RX1_11 rfl rfl rfl rfl rfl rfl dX1_init_12 ?_
  refine c_aload (pc := 15) 0 dX1_init_15 rfl ?_
  refine c_iconst (pc := 16) 5 dX1_init_16 (by decide) ?_
  refine c_bipush (pc := 17) 7 dX1_init_17 (by decide) ?_
  refine c_newH0 (pc := 19) 5 7 wk_RX1_9 dX1_init_19 (by decide) (by decide) (by decide) (by decide) (by decide) (by decide) (by decide) (by decide) (fun q2 r2 => ?_)
  refine c_putF0 (pc := 23) (j := 4) (fs' := [.null, .null, .int 0, .ref q1, .ref q2, .null, .null, .null, .null, .null, .null, .null, .null]) clX1 (by decide) wf_RX1_16 rfl rfl rfl rfl rfl rfl dX1_init_23 ?_
  refine c_aload (pc := 26) 0 dX1_init_26 rfl ?_
  refine c_bipush (pc := 27) 6 dX1_init_27 (by decide) ?_
  refine c_iconst (pc := 29) 5 dX1_init_29 (by decide) ?_
  refine c_newH0 (pc := 30) 6 5 wk_RX1_9 dX1_init_30 (by decide) (by decide) (by decide) (by decide) (by decide) (by decide) (by decide) (by decide) (fun q3 r3 => ?_)
  refine c_putF0 (pc := 34) (j := 5) (fs' := [.null, .null, .int 0, .ref q1, .ref q2, .ref q3, .null, .null, .null, .null, .null, .null, .null]) clX1 (by decide) wf_RX1_19 rfl rfl rfl rfl rfl rfl dX1_init_34 ?_
  refine c_aload (pc := 37) 0 dX1_init_37 rfl ?_
  refine c_bipush (pc := 38) 6 dX1_init_38 (by decide) ?_
  refine c_iconst (pc := 40) 5 dX1_init_40 (by decide) ?_
  refine c_newH0 (pc := 41) 6 5 wk_RX1_9 dX1_init_41 (by decide) (by decide) (by decide) (by decide) (by decide) (by decide) (by decide) (by decide) (fun q4 r4 => ?_)
  refine c_putF0 (pc := 45) (j := 6) (fs' := [.null, .null, .int 0, .ref q1, .ref q2, .ref q3, .ref q4, .null, .null, .null, .null, .null, .null]) clX1 (by decide) wf_RX1_22 rfl rfl rfl rfl rfl rfl dX1_init_45 ?_
  refine c_aload (pc := 48) 0 dX1_init_48 rfl ?_
  refine c_bipush (pc := 49) 6 dX1_init_49 (by decide) ?_
  refine c_iconst (pc := 51) 5 dX1_init_51 (by decide) ?_
  refine c_newH0 (pc := 52) 6 5 wk_RX1_9 dX1_init_52 (by decide) (by decide) (by decide) (by decide) (by decide) (by decide) (by decide) (by decide) (fun q5 r5 => ?_)
  refine c_putF0 (pc := 56) (j := 7) (fs' := [.null, .null, .int 0, .ref q1, .ref q2, .ref q3, .ref q4, .ref q5, .null, .null, .null, .null, .null]) clX1 (by decide) wf_RX1_25 rfl rfl rfl rfl rfl rfl dX1_init_56 ?_
  refine c_aload (pc := 59) 0 dX1_init_59 rfl ?_
  refine c_bipush (pc := 60) 6 dX1_init_60 (by decide) ?_
  refine c_newI0 (pc := 62) (6) dX1_init_62 (by decide) (by decide) (by decide) (by decide) (by decide) (fun q6 => ?_)
  refine c_putF0 (pc := 64) (j := 8) (fs' := [.null, .null, .int 0, .ref q1, .ref q2, .ref q3, .ref q4, .ref q5, .ref q6, .null, .null, .null, .null]) clX1 (by decide) wf_RX1_28 rfl rfl rfl rfl rfl rfl dX1_init_64 ?_
  refine c_aload (pc := 67) 0 dX1_init_67 rfl ?_
  refine c_iconst (pc := 68) 5 dX1_init_68 (by decide) ?_
  refine c_iconst (pc := 69) 5 dX1_init_69 (by decide) ?_
  refine c_newH0 (pc := 70) 5 5 wk_RX1_9 dX1_init_70 (by decide) (by decide) (by decide) (by decide) (by decide) (by decide) (by decide) (by decide) (fun q7 r7 => ?_)
  refine c_putF0 (pc := 74) (j := 9) (fs' := [.null, .null, .int 0, .ref q1, .ref q2, .ref q3, .ref q4, .ref q5, .ref q6, .ref q7, .null, .null, .null]) clX1 (by decide) wf_RX1_32 rfl rfl rfl rfl rfl rfl dX1_init_74 ?_
  refine c_aload (pc := 77) 0 dX1_init_77 rfl ?_
  refine c_bipush (pc := 78) 6 dX1_init_78 (by decide) ?_
  refine c_newI0 (pc := 80) (6) dX1_init_80 (by decide) (by decide) (by decide) (by decide) (by decide) (fun q8 => ?_)
  refine c_putF0 (pc := 82) (j := 10) (fs' := [.null, .null, .int 0, .ref q1, .ref q2, .ref q3, .ref q4, .ref q5, .ref q6, .ref q7, .ref q8, .null, .null]) clX1 (by decide) wf_RX1_35 rfl rfl rfl rfl rfl rfl dX1_init_82 ?_
  refine c_aload (pc := 85) 0 dX1_init_85 rfl ?_
  refine c_iconst (pc := 86) 5 dX1_init_86 (by decide) ?_
  refine c_newI0 (pc := 87) (5) dX1_init_87 (by decide) (by decide) (by decide) (by decide) (by decide) (fun q9 => ?_)
  refine c_putF0 (pc := 89) (j := 11) (fs' := [.null, .null, .int 0, .ref q1, .ref q2, .ref q3, .ref q4, .ref q5, .ref q6, .ref q7, .ref q8, .ref q9, .null]) clX1 (by decide) wf_RX1_38 rfl rfl rfl rfl rfl rfl dX1_init_89 ?_
  refine c_aload (pc := 92) 0 dX1_init_92 rfl ?_
  refine c_iconst (pc := 93) 5 dX1_init_93 (by decide) ?_
  refine c_newI0 (pc := 94) (5) dX1_init_94 (by decide) (by decide) (by decide) (by decide) (by decide) (fun q10 => ?_)
  refine c_putF0 (pc := 96) (j := 12) (fs' := [.null, .null, .int 0, .ref q1, .ref q2, .ref q3, .ref q4, .ref q5, .ref q6, .ref q7, .ref q8, .ref q9, .ref q10]) clX1 (by decide) wf_RX1_41 rfl rfl rfl rfl rfl rfl dX1_init_96 ?_
  refine c_aload (pc := 99) 0 dX1_init_99 rfl ?_
  refine c_aload (pc := 100) 1 dX1_init_100 rfl ?_
  refine c_put0 (pc := 101) (j := 0) (fs' := [.ref b1, .null, .int 0, .ref q1, .ref q2, .ref q3, .ref q4, .ref q5, .ref q6, .ref q7, .ref q8, .ref q9, .ref q10]) clX1 (by decide) wf_RX1_44 rfl rfl rfl rfl rfl dX1_init_101 ?_
  refine c_aload (pc := 104) 0 dX1_init_104 rfl ?_
  refine c_aload (pc := 105) 2 dX1_init_105 rfl ?_
  refine c_put0 (pc := 106) (j := 1) (fs' := [.ref b1, .ref b2, .int 0, .ref q1, .ref q2, .ref q3, .ref q4, .ref q5, .ref q6, .ref q7, .ref q8, .ref q9, .ref q10]) clX1 (by decide) wf_RX1_48 rfl rfl rfl rfl rfl dX1_init_106 ?_
  refine c_ret (pc := 109) dX1_init_109 (by decide) (by decide) ?_ E
  refine ⟨fun i => if i.1 = 1 then t else if i.1 = 11 then q1 else if i.1 = 12 then r1 i.2.2 else if i.1 = 13 then q2 else if i.1 = 14 then r2 i.2.2 else if i.1 = 15 then q3 else if i.1 = 16 then r3 i.2.2 else if i.1 = 17 then q4 else if i.1 = 18 then r4 i.2.2 else if i.1 = 19 then q5 else if i.1 = 20 then r5 i.2.2 else if i.1 = 21 then q6 else if i.1 = 22 then q7 else if i.1 = 23 then r7 i.2.2 else if i.1 = 24 then q8 else if i.1 = 25 then q9 else if i.1 = 26 then q10 else if i.1 = 3 then b1 else b2, rfl, rfl, rfl, congrArg (pre (cyX X) ++ ·) ?_⟩
  rfl)
theorem m_X5_init {pre : (Nat → ClassId) → va_W} {t b1 b2 : Nat} : CMet yX5_init cX5_init 3 1 2 [.ref t, .ref b1, .ref b2] (fun cy => pre cy ++ [(t, .inr (5, [.int 0, .int 0, .null, .int 0, .null, .int 0, .int 0, .int 0]))]) (fun cy ad0 ws1 => ∃ ad : Id3 → Nat, ad (5, 0, 0) = t ∧ ad (47, 0, 0) = b1 ∧ ad (3, 1, 0) = b2 ∧ ws1 = pre cy ++ cw ad cy (L5)) 
  := c_meth (by decide) rfl rfl (Nat.le_of_ble_eq_true rfl) rfl (fun X Q E => by
  refine c_aload (pc := 0) 0 dX5_init_0 rfl ?_
  refine c_obj (pc := 1) wo_RX5_3 (by decide) (Nat.le_of_ble_eq_true rfl) dX5_init_1 ?_
  refine c_aload (pc := 4) 0 dX5_init_4 rfl ?_
  refine c_iconst (pc := 5) (-1) dX5_init_5 (by decide) ?_
  refine c_put0 (pc := 6) (j := 1) (fs' := [.int 0, .int (-1), .null, .int 0, .null, .int 0, .int 0, .int 0]) clX5 (by decide) wf_RX5_9 rfl rfl rfl rfl rfl dX5_init_6 ?_
  refine c_aload (pc := 9) 0 dX5_init_9 rfl ?_
  refine c_aload (pc := 10) 1 dX5_init_10 rfl ?_
  refine c_putF0 (pc := 11) (j := 2) (fs' := [.int 0, .int (-1), .ref b1, .int 0, .null, .int 0, .int 0, .int 0]) clX5 (by decide) wf_RX5_15 rfl rfl rfl rfl rfl rfl dX5_init_11 ?_
  refine c_aload (pc := 14) 0 dX5_init_14 rfl ?_
  refine c_aload (pc := 15) 2 dX5_init_15 rfl ?_
  refine c_put0 (pc := 16) (j := 4) (fs' := [.int 0, .int (-1), .ref b1, .int 0, .ref b2, .int 0, .int 0, .int 0]) clX5 (by decide) wf_RX5_19 rfl rfl rfl rfl rfl dX5_init_16 ?_
  refine c_ret (pc := 19) dX5_init_19 (by decide) (by decide) ?_ E
  refine ⟨fun i => if i.1 = 5 then t else if i.1 = 47 then b1 else b2, rfl, rfl, rfl, congrArg (pre (cyX X) ++ ·) ?_⟩
  rfl)
