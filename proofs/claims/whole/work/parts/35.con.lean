def A8 (t : Nat) (q : Nat → Nat) (adS : Id3 → Nat) : Id3 → Nat := fun i => if i.1 = 8 then t else if i.1 = 90 then adS i else q i.1
set_option maxRecDepth 4000 in
theorem e8o {t : Nat} {q : Nat → Nat} {adS : Id3 → Nat} {cy : Nat → ClassId} : ((t, .inr (8, [.ref (q 48), .ref (q 49), .int 0, .ref (q 50), .ref (q 51), .ref (q 52), .ref (q 53), .ref (q 54), .ref (q 55), .ref (q 56), .ref (q 57), .ref (q 58), .ref (q 59), .ref (q 60), .int 0, .int 0, .int 0, .int 0, .int 0, .int 0, .int 0, .int 0, .int 0, .int (-1), .ref (q 61), .ref (q 62), .ref (q 63), .ref (q 64), .ref (q 65), .int 0, .int 0, .int 0, .int 0, .int 0, .int 0, .ref (q 66), .ref (q 67), .ref (q 68), .ref (q 69), .ref (q 70), .int (-1), .int 0, .int 0, .int (-1), .ref (q 71), .ref (q 72), .ref (q 73), .ref (q 74), .ref (q 75), .ref (q 76), .ref (q 77), .ref (q 78), .ref (q 79), .int 0, .int 0, .int 0, .int 0, .ref (q 80), .ref (q 81), .ref (q 82), .ref (q 83), .ref (q 84), .ref (q 85)])) : Nat × va_E) = (A8 t q adS (8, 0, 0), ce (A8 t q adS) cy I0 P0 O0 (8, 0, 0)) := by
  rfl
set_option maxRecDepth 4000 in
theorem e8 {t : Nat} {q : Nat → Nat} {adS : Id3 → Nat} {cy : Nat → ClassId} : (t, .inr (8, [.ref (q 48), .ref (q 49), .int 0, .ref (q 50), .ref (q 51), .ref (q 52), .ref (q 53), .ref (q 54), .ref (q 55), .ref (q 56), .ref (q 57), .ref (q 58), .ref (q 59), .ref (q 60), .int 0, .int 0, .int 0, .int 0, .int 0, .int 0, .int 0, .int 0, .int 0, .int (-1), .ref (q 61), .ref (q 62), .ref (q 63), .ref (q 64), .ref (q 65), .int 0, .int 0, .int 0, .int 0, .int 0, .int 0, .ref (q 66), .ref (q 67), .ref (q 68), .ref (q 69), .ref (q 70), .int (-1), .int 0, .int 0, .int (-1), .ref (q 71), .ref (q 72), .ref (q 73), .ref (q 74), .ref (q 75), .ref (q 76), .ref (q 77), .ref (q 78), .ref (q 79), .int 0, .int 0, .int 0, .int 0, .ref (q 80), .ref (q 81), .ref (q 82), .ref (q 83), .ref (q 84), .ref (q 85)])) :: (((((((((((((((((((((((((((((((((((((([] ++ [((q 48), .inl (cy 3, 3, .inr (.inr (.inr (.inr (fun k => some (adS (90, 0 + k, 0))))))))]) ++ [((q 49), .inl (cy 3, 5, .inr (.inr (.inr (.inr (fun k => some (adS (90, 3 + k, 0))))))))]) ++ [((q 50), .inl (cy 0, 14, .inl told0))]) ++ [((q 51), .inl (cy 0, 162, .inl (fun _ => 0)))]) ++ [((q 52), .inl (cy 0, 10, .inl (fun _ => 0)))]) ++ [((q 53), .inl (cy 0, 10, .inl (fun _ => 0)))]) ++ [((q 54), .inl (cy 0, 10, .inl (fun _ => 0)))]) ++ [((q 55), .inl (cy 0, 10, .inl (fun _ => 0)))]) ++ [((q 56), .inl (cy 0, 70, .inl (fun _ => 0)))]) ++ [((q 57), .inl (cy 0, 108, .inl (fun _ => 0)))]) ++ [((q 58), .inl (cy 0, 1200, .inl (fun _ => 0)))]) ++ [((q 59), .inl (cy 0, 3, .inl (fun _ => 0)))]) ++ [((q 60), .inl (cy 0, 600, .inl (fun _ => 0)))]) ++ [((q 61), .inl (cy 0, 81, .inl (fun _ => 0)))]) ++ [((q 62), .inl (cy 0, 15, .inl (fun _ => 0)))]) ++ [((q 63), .inl (cy 0, 12, .inl (fun _ => 0)))]) ++ [((q 64), .inl (cy 0, 18, .inl (fun _ => 0)))]) ++ [((q 65), .inl (cy 0, 1800, .inl (fun _ => 0)))]) ++ [((q 66), .inl (cy 0, 5, .inl (fun _ => 0)))]) ++ [((q 67), .inl (cy 0, 64, .inl (fun _ => 0)))]) ++ [((q 68), .inl (cy 0, 35, .inl (fun _ => 0)))]) ++ [((q 69), .inl (cy 0, 35, .inl (fun _ => 0)))]) ++ [((q 70), .inl (cy 0, 25, .inl (fun _ => 0)))]) ++ [((q 71), .inl (cy 0, 30, .inl (fun _ => 0)))]) ++ [((q 72), .inl (cy 0, 30, .inl (fun _ => 0)))]) ++ [((q 73), .inl (cy 0, 30, .inl (fun _ => 0)))]) ++ [((q 74), .inl (cy 0, 30, .inl (fun _ => 0)))]) ++ [((q 75), .inl (cy 0, 6, .inl (fun _ => 0)))]) ++ [((q 76), .inl (cy 0, 6, .inl (fun _ => 0)))]) ++ [((q 77), .inl (cy 0, 8, .inl (fun _ => 0)))]) ++ [((q 78), .inl (cy 0, 8, .inl (fun _ => 0)))]) ++ [((q 79), .inl (cy 0, 8, .inl (fun _ => 0)))]) ++ [((q 80), .inl (cy 0, 45, .inl (fun _ => 0)))]) ++ [((q 81), .inl (cy 0, 1800, .inl (fun _ => 0)))]) ++ [((q 82), .inl (cy 0, 8, .inl (fun _ => 0)))]) ++ [((q 83), .inl (cy 0, 8, .inl (fun _ => 0)))]) ++ [((q 84), .inl (cy 0, 8, .inl (fun _ => 0)))]) ++ [((q 85), .inl (cy 0, 3, .inl (fun _ => 0)))]) = cw (A8 t q adS) cy L8 := by
  unfold L8
  simp only [cw_app, cw, List.map_cons, List.map_nil, List.append_assoc, List.cons_append, List.nil_append]
  rw [e8o]
  refine congrArg (List.cons _) ?_
  refine congr (congrArg List.cons (by rfl)) ?_
  refine congr (congrArg List.cons (by rfl)) ?_
  refine congr (congrArg List.cons (by rfl)) ?_
  refine congr (congrArg List.cons (by rfl)) ?_
  refine congr (congrArg List.cons (by rfl)) ?_
  refine congr (congrArg List.cons (by rfl)) ?_
  refine congr (congrArg List.cons (by rfl)) ?_
  refine congr (congrArg List.cons (by rfl)) ?_
  refine congr (congrArg List.cons (by rfl)) ?_
  refine congr (congrArg List.cons (by rfl)) ?_
  refine congr (congrArg List.cons (by rfl)) ?_
  refine congr (congrArg List.cons (by rfl)) ?_
  refine congr (congrArg List.cons (by rfl)) ?_
  refine congr (congrArg List.cons (by rfl)) ?_
  refine congr (congrArg List.cons (by rfl)) ?_
  refine congr (congrArg List.cons (by rfl)) ?_
  refine congr (congrArg List.cons (by rfl)) ?_
  refine congr (congrArg List.cons (by rfl)) ?_
  refine congr (congrArg List.cons (by rfl)) ?_
  refine congr (congrArg List.cons (by rfl)) ?_
  refine congr (congrArg List.cons (by rfl)) ?_
  refine congr (congrArg List.cons (by rfl)) ?_
  refine congr (congrArg List.cons (by rfl)) ?_
  refine congr (congrArg List.cons (by rfl)) ?_
  refine congr (congrArg List.cons (by rfl)) ?_
  refine congr (congrArg List.cons (by rfl)) ?_
  refine congr (congrArg List.cons (by rfl)) ?_
  refine congr (congrArg List.cons (by rfl)) ?_
  refine congr (congrArg List.cons (by rfl)) ?_
  refine congr (congrArg List.cons (by rfl)) ?_
  refine congr (congrArg List.cons (by rfl)) ?_
  refine congr (congrArg List.cons (by rfl)) ?_
  refine congr (congrArg List.cons (by rfl)) ?_
  refine congr (congrArg List.cons (by rfl)) ?_
  refine congr (congrArg List.cons (by rfl)) ?_
  refine congr (congrArg List.cons (by rfl)) ?_
  refine congr (congrArg List.cons (by rfl)) ?_
  refine congr (congrArg List.cons (by rfl)) ?_
  rfl
set_option maxRecDepth 4000 in
set_option maxHeartbeats 4000000 in
theorem m_X8_init {pre : (Nat → ClassId) → va_W} {t : Nat} : CMet yX8_init cX8_init 1 1 1200 [.ref t] (fun cy => pre cy ++ [(t, .inr (8, [.null, .null, .int 0, .null, .null, .null, .null, .null, .null, .null, .null, .null, .null, .null, .int 0, .int 0, .int 0, .int 0, .int 0, .int 0, .int 0, .int 0, .int 0, .int 0, .null, .null, .null, .null, .null, .int 0, .int 0, .int 0, .int 0, .int 0, .int 0, .null, .null, .null, .null, .null, .int 0, .int 0, .int 0, .int 0, .null, .null, .null, .null, .null, .null, .null, .null, .null, .int 0, .int 0, .int 0, .int 0, .null, .null, .null, .null, .null, .null]))]) (fun cy ad0 ws1 => ∃ ad : Id3 → Nat, ad (8, 0, 0) = t ∧ (∀ j, ad (90, j, 0) = ad0 (90, j, 0)) ∧ ws1 = pre cy ++ cw ad cy (L8)) 
  := c_meth (by decide) rfl rfl (Nat.le_of_ble_eq_true rfl) rfl (fun X Q E => by
  refine c_aload (pc := 0) 0 dX8_init_0 rfl ?_
  refine c_obj (pc := 1) wo_RX8_3 (by decide) (Nat.le_of_ble_eq_true rfl) dX8_init_1 ?_
  refine c_aload (pc := 4) 0 dX8_init_4 rfl ?_
  refine c_iconst (pc := 5) 3 dX8_init_5 (by decide) ?_
  refine c_newS0 (pc := 6) 3 wk_RX8_9 dX8_init_6 (by decide) (by decide) (by decide) (by decide) (by decide) (fun q1 => ?_)
  refine c_dup (pc := 9) dX8_init_9 rfl ?_
  refine c_iconst (pc := 10) 0 dX8_init_10 (by decide) ?_
  refine c_ldcs (pc := 11) (j := 0) (text := "judge") dX8_init_11 (by decide) ?_
  refine c_sastL (pc := 13) (by decide) (by decide) dX8_init_13 ?_
  refine c_dup (pc := 14) dX8_init_14 rfl ?_
  refine c_iconst (pc := 15) 1 dX8_init_15 (by decide) ?_
  refine c_ldcs (pc := 16) (j := 1) (text := "deaf") dX8_init_16 (by decide) ?_
  refine c_sastL (pc := 18) (by decide) (by decide) dX8_init_18 ?_
  refine c_dup (pc := 19) dX8_init_19 rfl ?_
  refine c_iconst (pc := 20) 2 dX8_init_20 (by decide) ?_
  refine c_ldcs (pc := 21) (j := 2) (text := "wise") dX8_init_21 (by decide) ?_
  refine c_sastL (pc := 23) (by decide) (by decide) dX8_init_23 ?_
  refine c_convL (g := fun k => some (adX X (90, 0 + k, 0))) (fun i hi => by rcases i with _ | (_ | (_ | i)) <;> first | rfl | (exfalso; omega)) ?_
  refine c_putF0 (pc := 24) (j := 0) (fs' := [.ref q1, .null, .int 0, .null, .null, .null, .null, .null, .null, .null, .null, .null, .null, .null, .int 0, .int 0, .int 0, .int 0, .int 0, .int 0, .int 0, .int 0, .int 0, .int 0, .null, .null, .null, .null, .null, .int 0, .int 0, .int 0, .int 0, .int 0, .int 0, .null, .null, .null, .null, .null, .int 0, .int 0, .int 0, .int 0, .null, .null, .null, .null, .null, .null, .null, .null, .null, .int 0, .int 0, .int 0, .int 0, .null, .null, .null, .null, .null, .null]) clX8 (by decide) wf_RX8_17 rfl rfl rfl rfl rfl rfl dX8_init_24 ?_
  refine c_aload (pc := 27) 0 dX8_init_27 rfl ?_
  refine c_iconst (pc := 28) 5 dX8_init_28 (by decide) ?_
  refine c_newS0 (pc := 29) 5 wk_RX8_9 dX8_init_29 (by decide) (by decide) (by decide) (by decide) (by decide) (fun q2 => ?_)
  refine c_dup (pc := 32) dX8_init_32 rfl ?_
  refine c_iconst (pc := 33) 0 dX8_init_33 (by decide) ?_
  refine c_ldcs (pc := 34) (j := 3) (text := "proof") dX8_init_34 (by decide) ?_
  refine c_sastL (pc := 36) (by decide) (by decide) dX8_init_36 ?_
  refine c_dup (pc := 37) dX8_init_37 rfl ?_
  refine c_iconst (pc := 38) 1 dX8_init_38 (by decide) ?_
  refine c_ldcs (pc := 39) (j := 4) (text := "harsh") dX8_init_39 (by decide) ?_
  refine c_sastL (pc := 41) (by decide) (by decide) dX8_init_41 ?_
  refine c_dup (pc := 42) dX8_init_42 rfl ?_
  refine c_iconst (pc := 43) 2 dX8_init_43 (by decide) ?_
  refine c_ldcs (pc := 44) (j := 5) (text := "day") dX8_init_44 (by decide) ?_
  refine c_sastL (pc := 46) (by decide) (by decide) dX8_init_46 ?_
  refine c_dup (pc := 47) dX8_init_47 rfl ?_
  refine c_iconst (pc := 48) 3 dX8_init_48 (by decide) ?_
  refine c_ldcs (pc := 49) (j := 6) (text := "town") dX8_init_49 (by decide) ?_
  refine c_sastL (pc := 51) (by decide) (by decide) dX8_init_51 ?_
  refine c_dup (pc := 52) dX8_init_52 rfl ?_
  refine c_iconst (pc := 53) 4 dX8_init_53 (by decide) ?_
  refine c_ldcs (pc := 54) (j := 7) (text := "said") dX8_init_54 (by decide) ?_
  refine c_sastL (pc := 56) (by decide) (by decide) dX8_init_56 ?_
  refine c_convL (g := fun k => some (adX X (90, 3 + k, 0))) (fun i hi => by rcases i with _ | (_ | (_ | (_ | (_ | i)))) <;> first | rfl | (exfalso; omega)) ?_
  refine c_putF0 (pc := 57) (j := 1) (fs' := [.ref q1, .ref q2, .int 0, .null, .null, .null, .null, .null, .null, .null, .null, .null, .null, .null, .int 0, .int 0, .int 0, .int 0, .int 0, .int 0, .int 0, .int 0, .int 0, .int 0, .null, .null, .null, .null, .null, .int 0, .int 0, .int 0, .int 0, .int 0, .int 0, .null, .null, .null, .null, .null, .int 0, .int 0, .int 0, .int 0, .null, .null, .null, .null, .null, .null, .null, .null, .null, .int 0, .int 0, .int 0, .int 0, .null, .null, .null, .null, .null, .null]) clX8 (by decide) wf_RX8_31 rfl rfl rfl rfl rfl rfl dX8_init_57 ?_
  refine c_aload (pc := 60) 0 dX8_init_60 rfl ?_
  refine c_bipush (pc := 61) 14 dX8_init_61 (by decide) ?_
  refine c_newI0 (pc := 63) (14) dX8_init_63 (by decide) (by decide) (by decide) (by decide) (by decide) (fun q3 => ?_)
  refine c_dup (pc := 65) dX8_init_65 rfl ?_
  refine c_iconst (pc := 66) 0 dX8_init_66 (by decide) ?_
  refine c_iconst (pc := 67) 0 dX8_init_67 (by decide) ?_
  refine c_iastL (pc := 68) (by decide) dX8_init_68 ?_
  refine c_dup (pc := 69) dX8_init_69 rfl ?_
  refine c_iconst (pc := 70) 1 dX8_init_70 (by decide) ?_
  refine c_iconst (pc := 71) 0 dX8_init_71 (by decide) ?_
  refine c_iastL (pc := 72) (by decide) dX8_init_72 ?_
  refine c_dup (pc := 73) dX8_init_73 rfl ?_
  refine c_iconst (pc := 74) 2 dX8_init_74 (by decide) ?_
  refine c_iconst (pc := 75) 0 dX8_init_75 (by decide) ?_
  refine c_iastL (pc := 76) (by decide) dX8_init_76 ?_
  refine c_dup (pc := 77) dX8_init_77 rfl ?_
  refine c_iconst (pc := 78) 3 dX8_init_78 (by decide) ?_
  refine c_bipush (pc := 79) 10 dX8_init_79 (by decide) ?_
  refine c_iastL (pc := 81) (by decide) dX8_init_81 ?_
  refine c_dup (pc := 82) dX8_init_82 rfl ?_
  refine c_iconst (pc := 83) 4 dX8_init_83 (by decide) ?_
  refine c_iconst (pc := 84) 0 dX8_init_84 (by decide) ?_
  refine c_iastL (pc := 85) (by decide) dX8_init_85 ?_
  refine c_dup (pc := 86) dX8_init_86 rfl ?_
  refine c_iconst (pc := 87) 5 dX8_init_87 (by decide) ?_
  refine c_iconst (pc := 88) 0 dX8_init_88 (by decide) ?_
  refine c_iastL (pc := 89) (by decide) dX8_init_89 ?_
  refine c_dup (pc := 90) dX8_init_90 rfl ?_
  refine c_bipush (pc := 91) 6 dX8_init_91 (by decide) ?_
  refine c_iconst (pc := 93) 0 dX8_init_93 (by decide) ?_
  refine c_iastL (pc := 94) (by decide) dX8_init_94 ?_
  refine c_dup (pc := 95) dX8_init_95 rfl ?_
  refine c_bipush (pc := 96) 7 dX8_init_96 (by decide) ?_
  refine c_iconst (pc := 98) 0 dX8_init_98 (by decide) ?_
  refine c_iastL (pc := 99) (by decide) dX8_init_99 ?_
  refine c_dup (pc := 100) dX8_init_100 rfl ?_
  refine c_bipush (pc := 101) 8 dX8_init_101 (by decide) ?_
  refine c_iconst (pc := 103) 0 dX8_init_103 (by decide) ?_
  refine c_iastL (pc := 104) (by decide) dX8_init_104 ?_
  refine c_dup (pc := 105) dX8_init_105 rfl ?_
  refine c_bipush (pc := 106) 9 dX8_init_106 (by decide) ?_
  refine c_iconst (pc := 108) 0 dX8_init_108 (by decide) ?_
  refine c_iastL (pc := 109) (by decide) dX8_init_109 ?_
  refine c_dup (pc := 110) dX8_init_110 rfl ?_
  refine c_bipush (pc := 111) 10 dX8_init_111 (by decide) ?_
  refine c_bipush (pc := 113) 10 dX8_init_113 (by decide) ?_
  refine c_iastL (pc := 115) (by decide) dX8_init_115 ?_
  refine c_dup (pc := 116) dX8_init_116 rfl ?_
  refine c_bipush (pc := 117) 11 dX8_init_117 (by decide) ?_
  refine c_iconst (pc := 119) 0 dX8_init_119 (by decide) ?_
  refine c_iastL (pc := 120) (by decide) dX8_init_120 ?_
  refine c_dup (pc := 121) dX8_init_121 rfl ?_
  refine c_bipush (pc := 122) 12 dX8_init_122 (by decide) ?_
  refine c_iconst (pc := 124) 0 dX8_init_124 (by decide) ?_
  refine c_iastL (pc := 125) (by decide) dX8_init_125 ?_
  refine c_dup (pc := 126) dX8_init_126 rfl ?_
  refine c_bipush (pc := 127) 13 dX8_init_127 (by decide) ?_
  refine c_iconst (pc := 129) 0 dX8_init_129 (by decide) ?_
  refine c_iastL (pc := 130) (by decide) dX8_init_130 ?_
  refine c_convLI (g := told0) (fun i hi => by rcases i with _ | (_ | (_ | (_ | (_ | (_ | (_ | (_ | (_ | (_ | (_ | (_ | (_ | (_ | i))))))))))))) <;> first | rfl | (exfalso; omega)) ?_
  refine c_putF0 (pc := 131) (j := 3) (fs' := [.ref q1, .ref q2, .int 0, .ref q3, .null, .null, .null, .null, .null, .null, .null, .null, .null, .null, .int 0, .int 0, .int 0, .int 0, .int 0, .int 0, .int 0, .int 0, .int 0, .int 0, .null, .null, .null, .null, .null, .int 0, .int 0, .int 0, .int 0, .int 0, .int 0, .null, .null, .null, .null, .null, .int 0, .int 0, .int 0, .int 0, .null, .null, .null, .null, .null, .null, .null, .null, .null, .int 0, .int 0, .int 0, .int 0, .null, .null, .null, .null, .null, .null]) clX8 (by decide) wf_RX8_34 rfl rfl rfl rfl rfl rfl dX8_init_131 ?_
  refine c_aload (pc := 134) 0 dX8_init_134 rfl ?_
  refine c_sipush (pc := 135) 162 dX8_init_135 (by decide) ?_
  refine c_newI0 (pc := 138) (162) dX8_init_138 (by decide) (by decide) (by decide) (by decide) (by decide) (fun q4 => ?_)
  refine c_putF0 (pc := 140) (j := 4) (fs' := [.ref q1, .ref q2, .int 0, .ref q3, .ref q4, .null, .null, .null, .null, .null, .null, .null, .null, .null, .int 0, .int 0, .int 0, .int 0, .int 0, .int 0, .int 0, .int 0, .int 0, .int 0, .null, .null, .null, .null, .null, .int 0, .int 0, .int 0, .int 0, .int 0, .int 0, .null, .null, .null, .null, .null, .int 0, .int 0, .int 0, .int 0, .null, .null, .null, .null, .null, .null, .null, .null, .null, .int 0, .int 0, .int 0, .int 0, .null, .null, .null, .null, .null, .null]) clX8 (by decide) wf_RX8_38 rfl rfl rfl rfl rfl rfl dX8_init_140 ?_
  refine c_aload (pc := 143) 0 dX8_init_143 rfl ?_
  refine c_bipush (pc := 144) 10 dX8_init_144 (by decide) ?_
  refine c_newI0 (pc := 146) (10) dX8_init_146 (by decide) (by decide) (by decide) (by decide) (by decide) (fun q5 => ?_)
  refine c_putF0 (pc := 148) (j := 5) (fs' := [.ref q1, .ref q2, .int 0, .ref q3, .ref q4, .ref q5, .null, .null, .null, .null, .null, .null, .null, .null, .int 0, .int 0, .int 0, .int 0, .int 0, .int 0, .int 0, .int 0, .int 0, .int 0, .null, .null, .null, .null, .null, .int 0, .int 0, .int 0, .int 0, .int 0, .int 0, .null, .null, .null, .null, .null, .int 0, .int 0, .int 0, .int 0, .null, .null, .null, .null, .null, .null, .null, .null, .null, .int 0, .int 0, .int 0, .int 0, .null, .null, .null, .null, .null, .null]) clX8 (by decide) wf_RX8_41 rfl rfl rfl rfl rfl rfl dX8_init_148 ?_
  refine c_aload (pc := 151) 0 dX8_init_151 rfl ?_
  refine c_bipush (pc := 152) 10 dX8_init_152 (by decide) ?_
  refine c_newI0 (pc := 154) (10) dX8_init_154 (by decide) (by decide) (by decide) (by decide) (by decide) (fun q6 => ?_)
  refine c_putF0 (pc := 156) (j := 6) (fs' := [.ref q1, .ref q2, .int 0, .ref q3, .ref q4, .ref q5, .ref q6, .null, .null, .null, .null, .null, .null, .null, .int 0, .int 0, .int 0, .int 0, .int 0, .int 0, .int 0, .int 0, .int 0, .int 0, .null, .null, .null, .null, .null, .int 0, .int 0, .int 0, .int 0, .int 0, .int 0, .null, .null, .null, .null, .null, .int 0, .int 0, .int 0, .int 0, .null, .null, .null, .null, .null, .null, .null, .null, .null, .int 0, .int 0, .int 0, .int 0, .null, .null, .null, .null, .null, .null]) clX8 (by decide) wf_RX8_44 rfl rfl rfl rfl rfl rfl dX8_init_156 ?_
  refine c_aload (pc := 159) 0 dX8_init_159 rfl ?_
  refine c_bipush (pc := 160) 10 dX8_init_160 (by decide) ?_
  refine c_newI0 (pc := 162) (10) dX8_init_162 (by decide) (by decide) (by decide) (by decide) (by decide) (fun q7 => ?_)
  refine c_putF0 (pc := 164) (j := 7) (fs' := [.ref q1, .ref q2, .int 0, .ref q3, .ref q4, .ref q5, .ref q6, .ref q7, .null, .null, .null, .null, .null, .null, .int 0, .int 0, .int 0, .int 0, .int 0, .int 0, .int 0, .int 0, .int 0, .int 0, .null, .null, .null, .null, .null, .int 0, .int 0, .int 0, .int 0, .int 0, .int 0, .null, .null, .null, .null, .null, .int 0, .int 0, .int 0, .int 0, .null, .null, .null, .null, .null, .null, .null, .null, .null, .int 0, .int 0, .int 0, .int 0, .null, .null, .null, .null, .null, .null]) clX8 (by decide) wf_RX8_47 rfl rfl rfl rfl rfl rfl dX8_init_164 ?_
  refine c_aload (pc := 167) 0 dX8_init_167 rfl ?_
  refine c_bipush (pc := 168) 10 dX8_init_168 (by decide) ?_
  refine c_newI0 (pc := 170) (10) dX8_init_170 (by decide) (by decide) (by decide) (by decide) (by decide) (fun q8 => ?_)
  refine c_putF0 (pc := 172) (j := 8) (fs' := [.ref q1, .ref q2, .int 0, .ref q3, .ref q4, .ref q5, .ref q6, .ref q7, .ref q8, .null, .null, .null, .null, .null, .int 0, .int 0, .int 0, .int 0, .int 0, .int 0, .int 0, .int 0, .int 0, .int 0, .null, .null, .null, .null, .null, .int 0, .int 0, .int 0, .int 0, .int 0, .int 0, .null, .null, .null, .null, .null, .int 0, .int 0, .int 0, .int 0, .null, .null, .null, .null, .null, .null, .null, .null, .null, .int 0, .int 0, .int 0, .int 0, .null, .null, .null, .null, .null, .null]) clX8 (by decide) wf_RX8_49 rfl rfl rfl rfl rfl rfl dX8_init_172 ?_
  refine c_aload (pc := 175) 0 dX8_init_175 rfl ?_
  refine c_bipush (pc := 176) 70 dX8_init_176 (by decide) ?_
  refine c_newI0 (pc := 178) (70) dX8_init_178 (by decide) (by decide) (by decide) (by decide) (by decide) (fun q9 => ?_)
  refine c_putF0 (pc := 180) (j := 9) (fs' := [.ref q1, .ref q2, .int 0, .ref q3, .ref q4, .ref q5, .ref q6, .ref q7, .ref q8, .ref q9, .null, .null, .null, .null, .int 0, .int 0, .int 0, .int 0, .int 0, .int 0, .int 0, .int 0, .int 0, .int 0, .null, .null, .null, .null, .null, .int 0, .int 0, .int 0, .int 0, .int 0, .int 0, .null, .null, .null, .null, .null, .int 0, .int 0, .int 0, .int 0, .null, .null, .null, .null, .null, .null, .null, .null, .null, .int 0, .int 0, .int 0, .int 0, .null, .null, .null, .null, .null, .null]) clX8 (by decide) wf_RX8_52 rfl rfl rfl rfl rfl rfl dX8_init_180 ?_
  refine c_aload (pc := 183) 0 dX8_init_183 rfl ?_
  refine c_bipush (pc := 184) 108 dX8_init_184 (by decide) ?_
  refine c_newI0 (pc := 186) (108) dX8_init_186 (by decide) (by decide) (by decide) (by decide) (by decide) (fun q10 => ?_)
  refine c_putF0 (pc := 188) (j := 10) (fs' := [.ref q1, .ref q2, .int 0, .ref q3, .ref q4, .ref q5, .ref q6, .ref q7, .ref q8, .ref q9, .ref q10, .null, .null, .null, .int 0, .int 0, .int 0, .int 0, .int 0, .int 0, .int 0, .int 0, .int 0, .int 0, .null, .null, .null, .null, .null, .int 0, .int 0, .int 0, .int 0, .int 0, .int 0, .null, .null, .null, .null, .null, .int 0, .int 0, .int 0, .int 0, .null, .null, .null, .null, .null, .null, .null, .null, .null, .int 0, .int 0, .int 0, .int 0, .null, .null, .null, .null, .null, .null]) clX8 (by decide) wf_RX8_55 rfl rfl rfl rfl rfl rfl dX8_init_188 ?_
  refine c_aload (pc := 191) 0 dX8_init_191 rfl ?_
  refine c_sipush (pc := 192) 1200 dX8_init_192 (by decide) ?_
  refine c_newI0 (pc := 195) (1200) dX8_init_195 (by decide) (by decide) (by decide) (by decide) (by decide) (fun q11 => ?_)
  refine c_putF0 (pc := 197) (j := 11) (fs' := [.ref q1, .ref q2, .int 0, .ref q3, .ref q4, .ref q5, .ref q6, .ref q7, .ref q8, .ref q9, .ref q10, .ref q11, .null, .null, .int 0, .int 0, .int 0, .int 0, .int 0, .int 0, .int 0, .int 0, .int 0, .int 0, .null, .null, .null, .null, .null, .int 0, .int 0, .int 0, .int 0, .int 0, .int 0, .null, .null, .null, .null, .null, .int 0, .int 0, .int 0, .int 0, .null, .null, .null, .null, .null, .null, .null, .null, .null, .int 0, .int 0, .int 0, .int 0, .null, .null, .null, .null, .null, .null]) clX8 (by decide) wf_RX8_57 rfl rfl rfl rfl rfl rfl dX8_init_197 ?_
  refine c_aload (pc := 200) 0 dX8_init_200 rfl ?_
  refine c_iconst (pc := 201) 3 dX8_init_201 (by decide) ?_
  refine c_newI0 (pc := 202) (3) dX8_init_202 (by decide) (by decide) (by decide) (by decide) (by decide) (fun q12 => ?_)
  refine c_putF0 (pc := 204) (j := 12) (fs' := [.ref q1, .ref q2, .int 0, .ref q3, .ref q4, .ref q5, .ref q6, .ref q7, .ref q8, .ref q9, .ref q10, .ref q11, .ref q12, .null, .int 0, .int 0, .int 0, .int 0, .int 0, .int 0, .int 0, .int 0, .int 0, .int 0, .null, .null, .null, .null, .null, .int 0, .int 0, .int 0, .int 0, .int 0, .int 0, .null, .null, .null, .null, .null, .int 0, .int 0, .int 0, .int 0, .null, .null, .null, .null, .null, .null, .null, .null, .null, .int 0, .int 0, .int 0, .int 0, .null, .null, .null, .null, .null, .null]) clX8 (by decide) wf_RX8_60 rfl rfl rfl rfl rfl rfl dX8_init_204 ?_
  refine c_aload (pc := 207) 0 dX8_init_207 rfl ?_
  refine c_sipush (pc := 208) 600 dX8_init_208 (by decide) ?_
  refine c_newI0 (pc := 211) (600) dX8_init_211 (by decide) (by decide) (by decide) (by decide) (by decide) (fun q13 => ?_)
  refine c_putF0 (pc := 213) (j := 13) (fs' := [.ref q1, .ref q2, .int 0, .ref q3, .ref q4, .ref q5, .ref q6, .ref q7, .ref q8, .ref q9, .ref q10, .ref q11, .ref q12, .ref q13, .int 0, .int 0, .int 0, .int 0, .int 0, .int 0, .int 0, .int 0, .int 0, .int 0, .null, .null, .null, .null, .null, .int 0, .int 0, .int 0, .int 0, .int 0, .int 0, .null, .null, .null, .null, .null, .int 0, .int 0, .int 0, .int 0, .null, .null, .null, .null, .null, .null, .null, .null, .null, .int 0, .int 0, .int 0, .int 0, .null, .null, .null, .null, .null, .null]) clX8 (by decide) wf_RX8_63 rfl rfl rfl rfl rfl rfl dX8_init_213 ?_
  refine c_aload (pc := 216) 0 dX8_init_216 rfl ?_
  refine c_iconst (pc := 217) (-1) dX8_init_217 (by decide) ?_
  refine c_put0 (pc := 218) (j := 23) (fs' := [.ref q1, .ref q2, .int 0, .ref q3, .ref q4, .ref q5, .ref q6, .ref q7, .ref q8, .ref q9, .ref q10, .ref q11, .ref q12, .ref q13, .int 0, .int 0, .int 0, .int 0, .int 0, .int 0, .int 0, .int 0, .int 0, .int (-1), .null, .null, .null, .null, .null, .int 0, .int 0, .int 0, .int 0, .int 0, .int 0, .null, .null, .null, .null, .null, .int 0, .int 0, .int 0, .int 0, .null, .null, .null, .null, .null, .null, .null, .null, .null, .int 0, .int 0, .int 0, .int 0, .null, .null, .null, .null, .null, .null]) clX8 (by decide) wf_RX8_66 rfl rfl rfl rfl rfl dX8_init_218 ?_
  refine c_aload (pc := 221) 0 dX8_init_221 rfl ?_
  refine c_bipush (pc := 222) 81 dX8_init_222 (by decide) ?_
  refine c_newI0 (pc := 224) (81) dX8_init_224 (by decide) (by decide) (by decide) (by decide) (by decide) (fun q14 => ?_)
  refine c_putF0 (pc := 226) (j := 24) (fs' := [.ref q1, .ref q2, .int 0, .ref q3, .ref q4, .ref q5, .ref q6, .ref q7, .ref q8, .ref q9, .ref q10, .ref q11, .ref q12, .ref q13, .int 0, .int 0, .int 0, .int 0, .int 0, .int 0, .int 0, .int 0, .int 0, .int (-1), .ref q14, .null, .null, .null, .null, .int 0, .int 0, .int 0, .int 0, .int 0, .int 0, .null, .null, .null, .null, .null, .int 0, .int 0, .int 0, .int 0, .null, .null, .null, .null, .null, .null, .null, .null, .null, .int 0, .int 0, .int 0, .int 0, .null, .null, .null, .null, .null, .null]) clX8 (by decide) wf_RX8_70 rfl rfl rfl rfl rfl rfl dX8_init_226 ?_
  refine c_aload (pc := 229) 0 dX8_init_229 rfl ?_
  refine c_bipush (pc := 230) 15 dX8_init_230 (by decide) ?_
  refine c_newI0 (pc := 232) (15) dX8_init_232 (by decide) (by decide) (by decide) (by decide) (by decide) (fun q15 => ?_)
  refine c_putF0 (pc := 234) (j := 25) (fs' := [.ref q1, .ref q2, .int 0, .ref q3, .ref q4, .ref q5, .ref q6, .ref q7, .ref q8, .ref q9, .ref q10, .ref q11, .ref q12, .ref q13, .int 0, .int 0, .int 0, .int 0, .int 0, .int 0, .int 0, .int 0, .int 0, .int (-1), .ref q14, .ref q15, .null, .null, .null, .int 0, .int 0, .int 0, .int 0, .int 0, .int 0, .null, .null, .null, .null, .null, .int 0, .int 0, .int 0, .int 0, .null, .null, .null, .null, .null, .null, .null, .null, .null, .int 0, .int 0, .int 0, .int 0, .null, .null, .null, .null, .null, .null]) clX8 (by decide) wf_RX8_73 rfl rfl rfl rfl rfl rfl dX8_init_234 ?_
  refine c_aload (pc := 237) 0 dX8_init_237 rfl ?_
  refine c_bipush (pc := 238) 12 dX8_init_238 (by decide) ?_
  refine c_newI0 (pc := 240) (12) dX8_init_240 (by decide) (by decide) (by decide) (by decide) (by decide) (fun q16 => ?_)
  refine c_putF0 (pc := 242) (j := 26) (fs' := [.ref q1, .ref q2, .int 0, .ref q3, .ref q4, .ref q5, .ref q6, .ref q7, .ref q8, .ref q9, .ref q10, .ref q11, .ref q12, .ref q13, .int 0, .int 0, .int 0, .int 0, .int 0, .int 0, .int 0, .int 0, .int 0, .int (-1), .ref q14, .ref q15, .ref q16, .null, .null, .int 0, .int 0, .int 0, .int 0, .int 0, .int 0, .null, .null, .null, .null, .null, .int 0, .int 0, .int 0, .int 0, .null, .null, .null, .null, .null, .null, .null, .null, .null, .int 0, .int 0, .int 0, .int 0, .null, .null, .null, .null, .null, .null]) clX8 (by decide) wf_RX8_76 rfl rfl rfl rfl rfl rfl dX8_init_242 ?_
  refine c_aload (pc := 245) 0 dX8_init_245 rfl ?_
  refine c_bipush (pc := 246) 18 dX8_init_246 (by decide) ?_
  refine c_newI0 (pc := 248) (18) dX8_init_248 (by decide) (by decide) (by decide) (by decide) (by decide) (fun q17 => ?_)
  refine c_putF0 (pc := 250) (j := 27) (fs' := [.ref q1, .ref q2, .int 0, .ref q3, .ref q4, .ref q5, .ref q6, .ref q7, .ref q8, .ref q9, .ref q10, .ref q11, .ref q12, .ref q13, .int 0, .int 0, .int 0, .int 0, .int 0, .int 0, .int 0, .int 0, .int 0, .int (-1), .ref q14, .ref q15, .ref q16, .ref q17, .null, .int 0, .int 0, .int 0, .int 0, .int 0, .int 0, .null, .null, .null, .null, .null, .int 0, .int 0, .int 0, .int 0, .null, .null, .null, .null, .null, .null, .null, .null, .null, .int 0, .int 0, .int 0, .int 0, .null, .null, .null, .null, .null, .null]) clX8 (by decide) wf_RX8_79 rfl rfl rfl rfl rfl rfl dX8_init_250 ?_
  refine c_aload (pc := 253) 0 dX8_init_253 rfl ?_
  refine c_sipush (pc := 254) 1800 dX8_init_254 (by decide) ?_
  refine c_newI0 (pc := 257) (1800) dX8_init_257 (by decide) (by decide) (by decide) (by decide) (by decide) (fun q18 => ?_)
  refine c_putF0 (pc := 259) (j := 28) (fs' := [.ref q1, .ref q2, .int 0, .ref q3, .ref q4, .ref q5, .ref q6, .ref q7, .ref q8, .ref q9, .ref q10, .ref q11, .ref q12, .ref q13, .int 0, .int 0, .int 0, .int 0, .int 0, .int 0, .int 0, .int 0, .int 0, .int (-1), .ref q14, .ref q15, .ref q16, .ref q17, .ref q18, .int 0, .int 0, .int 0, .int 0, .int 0, .int 0, .null, .null, .null, .null, .null, .int 0, .int 0, .int 0, .int 0, .null, .null, .null, .null, .null, .null, .null, .null, .null, .int 0, .int 0, .int 0, .int 0, .null, .null, .null, .null, .null, .null]) clX8 (by decide) wf_RX8_82 rfl rfl rfl rfl rfl rfl dX8_init_259 ?_
  refine c_aload (pc := 262) 0 dX8_init_262 rfl ?_
  refine c_iconst (pc := 263) 5 dX8_init_263 (by decide) ?_
  refine c_newI0 (pc := 264) (5) dX8_init_264 (by decide) (by decide) (by decide) (by decide) (by decide) (fun q19 => ?_)
  refine c_putF0 (pc := 266) (j := 35) (fs' := [.ref q1, .ref q2, .int 0, .ref q3, .ref q4, .ref q5, .ref q6, .ref q7, .ref q8, .ref q9, .ref q10, .ref q11, .ref q12, .ref q13, .int 0, .int 0, .int 0, .int 0, .int 0, .int 0, .int 0, .int 0, .int 0, .int (-1), .ref q14, .ref q15, .ref q16, .ref q17, .ref q18, .int 0, .int 0, .int 0, .int 0, .int 0, .int 0, .ref q19, .null, .null, .null, .null, .int 0, .int 0, .int 0, .int 0, .null, .null, .null, .null, .null, .null, .null, .null, .null, .int 0, .int 0, .int 0, .int 0, .null, .null, .null, .null, .null, .null]) clX8 (by decide) wf_RX8_85 rfl rfl rfl rfl rfl rfl dX8_init_266 ?_
  refine c_aload (pc := 269) 0 dX8_init_269 rfl ?_
  refine c_bipush (pc := 270) 64 dX8_init_270 (by decide) ?_
  refine c_newI0 (pc := 272) (64) dX8_init_272 (by decide) (by decide) (by decide) (by decide) (by decide) (fun q20 => ?_)
  refine c_putF0 (pc := 274) (j := 36) (fs' := [.ref q1, .ref q2, .int 0, .ref q3, .ref q4, .ref q5, .ref q6, .ref q7, .ref q8, .ref q9, .ref q10, .ref q11, .ref q12, .ref q13, .int 0, .int 0, .int 0, .int 0, .int 0, .int 0, .int 0, .int 0, .int 0, .int (-1), .ref q14, .ref q15, .ref q16, .ref q17, .ref q18, .int 0, .int 0, .int 0, .int 0, .int 0, .int 0, .ref q19, .ref q20, .null, .null, .null, .int 0, .int 0, .int 0, .int 0, .null, .null, .null, .null, .null, .null, .null, .null, .null, .int 0, .int 0, .int 0, .int 0, .null, .null, .null, .null, .null, .null]) clX8 (by decide) wf_RX8_88 rfl rfl rfl rfl rfl rfl dX8_init_274 ?_
  refine c_aload (pc := 277) 0 dX8_init_277 rfl ?_
  refine c_bipush (pc := 278) 35 dX8_init_278 (by decide) ?_
  refine c_newI0 (pc := 280) (35) dX8_init_280 (by decide) (by decide) (by decide) (by decide) (by decide) (fun q21 => ?_)
  refine c_putF0 (pc := 282) (j := 37) (fs' := [.ref q1, .ref q2, .int 0, .ref q3, .ref q4, .ref q5, .ref q6, .ref q7, .ref q8, .ref q9, .ref q10, .ref q11, .ref q12, .ref q13, .int 0, .int 0, .int 0, .int 0, .int 0, .int 0, .int 0, .int 0, .int 0, .int (-1), .ref q14, .ref q15, .ref q16, .ref q17, .ref q18, .int 0, .int 0, .int 0, .int 0, .int 0, .int 0, .ref q19, .ref q20, .ref q21, .null, .null, .int 0, .int 0, .int 0, .int 0, .null, .null, .null, .null, .null, .null, .null, .null, .null, .int 0, .int 0, .int 0, .int 0, .null, .null, .null, .null, .null, .null]) clX8 (by decide) wf_RX8_91 rfl rfl rfl rfl rfl rfl dX8_init_282 ?_
  refine c_aload (pc := 285) 0 dX8_init_285 rfl ?_
  refine c_bipush (pc := 286) 35 dX8_init_286 (by decide) ?_
  refine c_newI0 (pc := 288) (35) dX8_init_288 (by decide) (by decide) (by decide) (by decide) (by decide) (fun q22 => ?_)
  refine c_putF0 (pc := 290) (j := 38) (fs' := [.ref q1, .ref q2, .int 0, .ref q3, .ref q4, .ref q5, .ref q6, .ref q7, .ref q8, .ref q9, .ref q10, .ref q11, .ref q12, .ref q13, .int 0, .int 0, .int 0, .int 0, .int 0, .int 0, .int 0, .int 0, .int 0, .int (-1), .ref q14, .ref q15, .ref q16, .ref q17, .ref q18, .int 0, .int 0, .int 0, .int 0, .int 0, .int 0, .ref q19, .ref q20, .ref q21, .ref q22, .null, .int 0, .int 0, .int 0, .int 0, .null, .null, .null, .null, .null, .null, .null, .null, .null, .int 0, .int 0, .int 0, .int 0, .null, .null, .null, .null, .null, .null]) clX8 (by decide) wf_RX8_94 rfl rfl rfl rfl rfl rfl dX8_init_290 ?_
  refine c_aload (pc := 293) 0 dX8_init_293 rfl ?_
  refine c_bipush (pc := 294) 25 dX8_init_294 (by decide) ?_
  refine c_newI0 (pc := 296) (25) dX8_init_296 (by decide) (by decide) (by decide) (by decide) (by decide) (fun q23 => ?_)
  refine c_putF0 (pc := 298) (j := 39) (fs' := [.ref q1, .ref q2, .int 0, .ref q3, .ref q4, .ref q5, .ref q6, .ref q7, .ref q8, .ref q9, .ref q10, .ref q11, .ref q12, .ref q13, .int 0, .int 0, .int 0, .int 0, .int 0, .int 0, .int 0, .int 0, .int 0, .int (-1), .ref q14, .ref q15, .ref q16, .ref q17, .ref q18, .int 0, .int 0, .int 0, .int 0, .int 0, .int 0, .ref q19, .ref q20, .ref q21, .ref q22, .ref q23, .int 0, .int 0, .int 0, .int 0, .null, .null, .null, .null, .null, .null, .null, .null, .null, .int 0, .int 0, .int 0, .int 0, .null, .null, .null, .null, .null, .null]) clX8 (by decide) wf_RX8_97 rfl rfl rfl rfl rfl rfl dX8_init_298 ?_
  refine c_aload (pc := 301) 0 dX8_init_301 rfl ?_
  refine c_iconst (pc := 302) (-1) dX8_init_302 (by decide) ?_
  refine c_put0 (pc := 303) (j := 40) (fs' := [.ref q1, .ref q2, .int 0, .ref q3, .ref q4, .ref q5, .ref q6, .ref q7, .ref q8, .ref q9, .ref q10, .ref q11, .ref q12, .ref q13, .int 0, .int 0, .int 0, .int 0, .int 0, .int 0, .int 0, .int 0, .int 0, .int (-1), .ref q14, .ref q15, .ref q16, .ref q17, .ref q18, .int 0, .int 0, .int 0, .int 0, .int 0, .int 0, .ref q19, .ref q20, .ref q21, .ref q22, .ref q23, .int (-1), .int 0, .int 0, .int 0, .null, .null, .null, .null, .null, .null, .null, .null, .null, .int 0, .int 0, .int 0, .int 0, .null, .null, .null, .null, .null, .null]) clX8 (by decide) wf_RX8_100 rfl rfl rfl rfl rfl dX8_init_303 ?_
  refine c_aload (pc := 306) 0 dX8_init_306 rfl ?_
  refine c_iconst (pc := 307) (-1) dX8_init_307 (by decide) ?_
  refine c_put0 (pc := 308) (j := 43) (fs' := [.ref q1, .ref q2, .int 0, .ref q3, .ref q4, .ref q5, .ref q6, .ref q7, .ref q8, .ref q9, .ref q10, .ref q11, .ref q12, .ref q13, .int 0, .int 0, .int 0, .int 0, .int 0, .int 0, .int 0, .int 0, .int 0, .int (-1), .ref q14, .ref q15, .ref q16, .ref q17, .ref q18, .int 0, .int 0, .int 0, .int 0, .int 0, .int 0, .ref q19, .ref q20, .ref q21, .ref q22, .ref q23, .int (-1), .int 0, .int 0, .int (-1), .null, .null, .null, .null, .null, .null, .null, .null, .null, .int 0, .int 0, .int 0, .int 0, .null, .null, .null, .null, .null, .null]) clX8 (by decide) wf_RX8_103 rfl rfl rfl rfl rfl dX8_init_308 ?_
  refine c_aload (pc := 311) 0 dX8_init_311 rfl ?_
  refine c_bipush (pc := 312) 30 dX8_init_312 (by decide) ?_
  refine c_newI0 (pc := 314) (30) dX8_init_314 (by decide) (by decide) (by decide) (by decide) (by decide) (fun q24 => ?_)
  refine c_putF0 (pc := 316) (j := 44) (fs' := [.ref q1, .ref q2, .int 0, .ref q3, .ref q4, .ref q5, .ref q6, .ref q7, .ref q8, .ref q9, .ref q10, .ref q11, .ref q12, .ref q13, .int 0, .int 0, .int 0, .int 0, .int 0, .int 0, .int 0, .int 0, .int 0, .int (-1), .ref q14, .ref q15, .ref q16, .ref q17, .ref q18, .int 0, .int 0, .int 0, .int 0, .int 0, .int 0, .ref q19, .ref q20, .ref q21, .ref q22, .ref q23, .int (-1), .int 0, .int 0, .int (-1), .ref q24, .null, .null, .null, .null, .null, .null, .null, .null, .int 0, .int 0, .int 0, .int 0, .null, .null, .null, .null, .null, .null]) clX8 (by decide) wf_RX8_106 rfl rfl rfl rfl rfl rfl dX8_init_316 ?_
  refine c_aload (pc := 319) 0 dX8_init_319 rfl ?_
  refine c_bipush (pc := 320) 30 dX8_init_320 (by decide) ?_
  refine c_newI0 (pc := 322) (30) dX8_init_322 (by decide) (by decide) (by decide) (by decide) (by decide) (fun q25 => ?_)
  refine c_putF0 (pc := 324) (j := 45) (fs' := [.ref q1, .ref q2, .int 0, .ref q3, .ref q4, .ref q5, .ref q6, .ref q7, .ref q8, .ref q9, .ref q10, .ref q11, .ref q12, .ref q13, .int 0, .int 0, .int 0, .int 0, .int 0, .int 0, .int 0, .int 0, .int 0, .int (-1), .ref q14, .ref q15, .ref q16, .ref q17, .ref q18, .int 0, .int 0, .int 0, .int 0, .int 0, .int 0, .ref q19, .ref q20, .ref q21, .ref q22, .ref q23, .int (-1), .int 0, .int 0, .int (-1), .ref q24, .ref q25, .null, .null, .null, .null, .null, .null, .null, .int 0, .int 0, .int 0, .int 0, .null, .null, .null, .null, .null, .null]) clX8 (by decide) wf_RX8_108 rfl rfl rfl rfl rfl rfl dX8_init_324 ?_
  refine c_aload (pc := 327) 0 dX8_init_327 rfl ?_
  refine c_bipush (pc := 328) 30 dX8_init_328 (by decide) ?_
  refine c_newI0 (pc := 330) (30) dX8_init_330 (by decide) (by decide) (by decide) (by decide) (by decide) (fun q26 => ?_)
  refine c_putF0 (pc := 332) (j := 46) (fs' := [.ref q1, .ref q2, .int 0, .ref q3, .ref q4, .ref q5, .ref q6, .ref q7, .ref q8, .ref q9, .ref q10, .ref q11, .ref q12, .ref q13, .int 0, .int 0, .int 0, .int 0, .int 0, .int 0, .int 0, .int 0, .int 0, .int (-1), .ref q14, .ref q15, .ref q16, .ref q17, .ref q18, .int 0, .int 0, .int 0, .int 0, .int 0, .int 0, .ref q19, .ref q20, .ref q21, .ref q22, .ref q23, .int (-1), .int 0, .int 0, .int (-1), .ref q24, .ref q25, .ref q26, .null, .null, .null, .null, .null, .null, .int 0, .int 0, .int 0, .int 0, .null, .null, .null, .null, .null, .null]) clX8 (by decide) wf_RX8_111 rfl rfl rfl rfl rfl rfl dX8_init_332 ?_
  refine c_aload (pc := 335) 0 dX8_init_335 rfl ?_
  refine c_bipush (pc := 336) 30 dX8_init_336 (by decide) ?_
  refine c_newI0 (pc := 338) (30) dX8_init_338 (by decide) (by decide) (by decide) (by decide) (by decide) (fun q27 => ?_)
  refine c_putF0 (pc := 340) (j := 47) (fs' := [.ref q1, .ref q2, .int 0, .ref q3, .ref q4, .ref q5, .ref q6, .ref q7, .ref q8, .ref q9, .ref q10, .ref q11, .ref q12, .ref q13, .int 0, .int 0, .int 0, .int 0, .int 0, .int 0, .int 0, .int 0, .int 0, .int (-1), .ref q14, .ref q15, .ref q16, .ref q17, .ref q18, .int 0, .int 0, .int 0, .int 0, .int 0, .int 0, .ref q19, .ref q20, .ref q21, .ref q22, .ref q23, .int (-1), .int 0, .int 0, .int (-1), .ref q24, .ref q25, .ref q26, .ref q27, .null, .null, .null, .null, .null, .int 0, .int 0, .int 0, .int 0, .null, .null, .null, .null, .null, .null]) clX8 (by decide) wf_RX8_114 rfl rfl rfl rfl rfl rfl dX8_init_340 ?_
  refine c_aload (pc := 343) 0 dX8_init_343 rfl ?_
  refine c_bipush (pc := 344) 6 dX8_init_344 (by decide) ?_
  refine c_newI0 (pc := 346) (6) dX8_init_346 (by decide) (by decide) (by decide) (by decide) (by decide) (fun q28 => ?_)
  refine c_putF0 (pc := 348) (j := 48) (fs' := [.ref q1, .ref q2, .int 0, .ref q3, .ref q4, .ref q5, .ref q6, .ref q7, .ref q8, .ref q9, .ref q10, .ref q11, .ref q12, .ref q13, .int 0, .int 0, .int 0, .int 0, .int 0, .int 0, .int 0, .int 0, .int 0, .int (-1), .ref q14, .ref q15, .ref q16, .ref q17, .ref q18, .int 0, .int 0, .int 0, .int 0, .int 0, .int 0, .ref q19, .ref q20, .ref q21, .ref q22, .ref q23, .int (-1), .int 0, .int 0, .int (-1), .ref q24, .ref q25, .ref q26, .ref q27, .ref q28, .null, .null, .null, .null, .int 0, .int 0, .int 0, .int 0, .null, .null, .null, .null, .null, .null]) clX8 (by decide) wf_RX8_117 rfl rfl rfl rfl rfl rfl dX8_init_348 ?_
  refine c_aload (pc := 351) 0 dX8_init_351 rfl ?_
  refine c_bipush (pc := 352) 6 dX8_init_352 (by decide) ?_
  refine c_newI0 (pc := 354) (6) dX8_init_354 (by decide) (by decide) (by decide) (by decide) (by decide) (fun q29 => ?_)
  refine c_putF0 (pc := 356) (j := 49) (fs' := [.ref q1, .ref q2, .int 0, .ref q3, .ref q4, .ref q5, .ref q6, .ref q7, .ref q8, .ref q9, .ref q10, .ref q11, .ref q12, .ref q13, .int 0, .int 0, .int 0, .int 0, .int 0, .int 0, .int 0, .int 0, .int 0, .int (-1), .ref q14, .ref q15, .ref q16, .ref q17, .ref q18, .int 0, .int 0, .int 0, .int 0, .int 0, .int 0, .ref q19, .ref q20, .ref q21, .ref q22, .ref q23, .int (-1), .int 0, .int 0, .int (-1), .ref q24, .ref q25, .ref q26, .ref q27, .ref q28, .ref q29, .null, .null, .null, .int 0, .int 0, .int 0, .int 0, .null, .null, .null, .null, .null, .null]) clX8 (by decide) wf_RX8_120 rfl rfl rfl rfl rfl rfl dX8_init_356 ?_
  refine c_aload (pc := 359) 0 dX8_init_359 rfl ?_
  refine c_bipush (pc := 360) 8 dX8_init_360 (by decide) ?_
  refine c_newI0 (pc := 362) (8) dX8_init_362 (by decide) (by decide) (by decide) (by decide) (by decide) (fun q30 => ?_)
  refine c_putF0 (pc := 364) (j := 50) (fs' := [.ref q1, .ref q2, .int 0, .ref q3, .ref q4, .ref q5, .ref q6, .ref q7, .ref q8, .ref q9, .ref q10, .ref q11, .ref q12, .ref q13, .int 0, .int 0, .int 0, .int 0, .int 0, .int 0, .int 0, .int 0, .int 0, .int (-1), .ref q14, .ref q15, .ref q16, .ref q17, .ref q18, .int 0, .int 0, .int 0, .int 0, .int 0, .int 0, .ref q19, .ref q20, .ref q21, .ref q22, .ref q23, .int (-1), .int 0, .int 0, .int (-1), .ref q24, .ref q25, .ref q26, .ref q27, .ref q28, .ref q29, .ref q30, .null, .null, .int 0, .int 0, .int 0, .int 0, .null, .null, .null, .null, .null, .null]) clX8 (by decide) wf_RX8_123 rfl rfl rfl rfl rfl rfl dX8_init_364 ?_
  refine c_aload (pc := 367) 0 dX8_init_367 rfl ?_
  refine c_bipush (pc := 368) 8 dX8_init_368 (by decide) ?_
  refine c_newI0 (pc := 370) (8) dX8_init_370 (by decide) (by decide) (by decide) (by decide) (by decide) (fun q31 => ?_)
  refine c_putF0 (pc := 372) (j := 51) (fs' := [.ref q1, .ref q2, .int 0, .ref q3, .ref q4, .ref q5, .ref q6, .ref q7, .ref q8, .ref q9, .ref q10, .ref q11, .ref q12, .ref q13, .int 0, .int 0, .int 0, .int 0, .int 0, .int 0, .int 0, .int 0, .int 0, .int (-1), .ref q14, .ref q15, .ref q16, .ref q17, .ref q18, .int 0, .int 0, .int 0, .int 0, .int 0, .int 0, .ref q19, .ref q20, .ref q21, .ref q22, .ref q23, .int (-1), .int 0, .int 0, .int (-1), .ref q24, .ref q25, .ref q26, .ref q27, .ref q28, .ref q29, .ref q30, .ref q31, .null, .int 0, .int 0, .int 0, .int 0, .null, .null, .null, .null, .null, .null]) clX8 (by decide) wf_RX8_126 rfl rfl rfl rfl rfl rfl dX8_init_372 ?_
  refine c_aload (pc := 375) 0 dX8_init_375 rfl ?_
  refine c_bipush (pc := 376) 8 dX8_init_376 (by decide) ?_
  refine c_newI0 (pc := 378) (8) dX8_init_378 (by decide) (by decide) (by decide) (by decide) (by decide) (fun q32 => ?_)
  refine c_putF0 (pc := 380) (j := 52) (fs' := [.ref q1, .ref q2, .int 0, .ref q3, .ref q4, .ref q5, .ref q6, .ref q7, .ref q8, .ref q9, .ref q10, .ref q11, .ref q12, .ref q13, .int 0, .int 0, .int 0, .int 0, .int 0, .int 0, .int 0, .int 0, .int 0, .int (-1), .ref q14, .ref q15, .ref q16, .ref q17, .ref q18, .int 0, .int 0, .int 0, .int 0, .int 0, .int 0, .ref q19, .ref q20, .ref q21, .ref q22, .ref q23, .int (-1), .int 0, .int 0, .int (-1), .ref q24, .ref q25, .ref q26, .ref q27, .ref q28, .ref q29, .ref q30, .ref q31, .ref q32, .int 0, .int 0, .int 0, .int 0, .null, .null, .null, .null, .null, .null]) clX8 (by decide) wf_RX8_129 rfl rfl rfl rfl rfl rfl dX8_init_380 ?_
  refine c_aload (pc := 383) 0 dX8_init_383 rfl ?_
  refine c_bipush (pc := 384) 45 dX8_init_384 (by decide) ?_
  refine c_newI0 (pc := 386) (45) dX8_init_386 (by decide) (by decide) (by decide) (by decide) (by decide) (fun q33 => ?_)
  refine c_putF0 (pc := 388) (j := 57) (fs' := [.ref q1, .ref q2, .int 0, .ref q3, .ref q4, .ref q5, .ref q6, .ref q7, .ref q8, .ref q9, .ref q10, .ref q11, .ref q12, .ref q13, .int 0, .int 0, .int 0, .int 0, .int 0, .int 0, .int 0, .int 0, .int 0, .int (-1), .ref q14, .ref q15, .ref q16, .ref q17, .ref q18, .int 0, .int 0, .int 0, .int 0, .int 0, .int 0, .ref q19, .ref q20, .ref q21, .ref q22, .ref q23, .int (-1), .int 0, .int 0, .int (-1), .ref q24, .ref q25, .ref q26, .ref q27, .ref q28, .ref q29, .ref q30, .ref q31, .ref q32, .int 0, .int 0, .int 0, .int 0, .ref q33, .null, .null, .null, .null, .null]) clX8 (by decide) wf_RX8_132 rfl rfl rfl rfl rfl rfl dX8_init_388 ?_
  refine c_aload (pc := 391) 0 dX8_init_391 rfl ?_
  refine c_sipush (pc := 392) 1800 dX8_init_392 (by decide) ?_
  refine c_newI0 (pc := 395) (1800) dX8_init_395 (by decide) (by decide) (by decide) (by decide) (by decide) (fun q34 => ?_)
  refine c_putF0 (pc := 397) (j := 58) (fs' := [.ref q1, .ref q2, .int 0, .ref q3, .ref q4, .ref q5, .ref q6, .ref q7, .ref q8, .ref q9, .ref q10, .ref q11, .ref q12, .ref q13, .int 0, .int 0, .int 0, .int 0, .int 0, .int 0, .int 0, .int 0, .int 0, .int (-1), .ref q14, .ref q15, .ref q16, .ref q17, .ref q18, .int 0, .int 0, .int 0, .int 0, .int 0, .int 0, .ref q19, .ref q20, .ref q21, .ref q22, .ref q23, .int (-1), .int 0, .int 0, .int (-1), .ref q24, .ref q25, .ref q26, .ref q27, .ref q28, .ref q29, .ref q30, .ref q31, .ref q32, .int 0, .int 0, .int 0, .int 0, .ref q33, .ref q34, .null, .null, .null, .null]) clX8 (by decide) wf_RX8_135 rfl rfl rfl rfl rfl rfl dX8_init_397 ?_
  refine c_aload (pc := 400) 0 dX8_init_400 rfl ?_
  refine c_bipush (pc := 401) 8 dX8_init_401 (by decide) ?_
  refine c_newI0 (pc := 403) (8) dX8_init_403 (by decide) (by decide) (by decide) (by decide) (by decide) (fun q35 => ?_)
  refine c_putF0 (pc := 405) (j := 59) (fs' := [.ref q1, .ref q2, .int 0, .ref q3, .ref q4, .ref q5, .ref q6, .ref q7, .ref q8, .ref q9, .ref q10, .ref q11, .ref q12, .ref q13, .int 0, .int 0, .int 0, .int 0, .int 0, .int 0, .int 0, .int 0, .int 0, .int (-1), .ref q14, .ref q15, .ref q16, .ref q17, .ref q18, .int 0, .int 0, .int 0, .int 0, .int 0, .int 0, .ref q19, .ref q20, .ref q21, .ref q22, .ref q23, .int (-1), .int 0, .int 0, .int (-1), .ref q24, .ref q25, .ref q26, .ref q27, .ref q28, .ref q29, .ref q30, .ref q31, .ref q32, .int 0, .int 0, .int 0, .int 0, .ref q33, .ref q34, .ref q35, .null, .null, .null]) clX8 (by decide) wf_RX8_138 rfl rfl rfl rfl rfl rfl dX8_init_405 ?_
  refine c_aload (pc := 408) 0 dX8_init_408 rfl ?_
  refine c_bipush (pc := 409) 8 dX8_init_409 (by decide) ?_
  refine c_newI0 (pc := 411) (8) dX8_init_411 (by decide) (by decide) (by decide) (by decide) (by decide) (fun q36 => ?_)
  refine c_putF0 (pc := 413) (j := 60) (fs' := [.ref q1, .ref q2, .int 0, .ref q3, .ref q4, .ref q5, .ref q6, .ref q7, .ref q8, .ref q9, .ref q10, .ref q11, .ref q12, .ref q13, .int 0, .int 0, .int 0, .int 0, .int 0, .int 0, .int 0, .int 0, .int 0, .int (-1), .ref q14, .ref q15, .ref q16, .ref q17, .ref q18, .int 0, .int 0, .int 0, .int 0, .int 0, .int 0, .ref q19, .ref q20, .ref q21, .ref q22, .ref q23, .int (-1), .int 0, .int 0, .int (-1), .ref q24, .ref q25, .ref q26, .ref q27, .ref q28, .ref q29, .ref q30, .ref q31, .ref q32, .int 0, .int 0, .int 0, .int 0, .ref q33, .ref q34, .ref q35, .ref q36, .null, .null]) clX8 (by decide) wf_RX8_141 rfl rfl rfl rfl rfl rfl dX8_init_413 ?_
  refine c_aload (pc := 416) 0 dX8_init_416 rfl ?_
  refine c_bipush (pc := 417) 8 dX8_init_417 (by decide) ?_
  refine c_newI0 (pc := 419) (8) dX8_init_419 (by decide) (by decide) (by decide) (by decide) (by decide) (fun q37 => ?_)
  refine c_putF0 (pc := 421) (j := 61) (fs' := [.ref q1, .ref q2, .int 0, .ref q3, .ref q4, .ref q5, .ref q6, .ref q7, .ref q8, .ref q9, .ref q10, .ref q11, .ref q12, .ref q13, .int 0, .int 0, .int 0, .int 0, .int 0, .int 0, .int 0, .int 0, .int 0, .int (-1), .ref q14, .ref q15, .ref q16, .ref q17, .ref q18, .int 0, .int 0, .int 0, .int 0, .int 0, .int 0, .ref q19, .ref q20, .ref q21, .ref q22, .ref q23, .int (-1), .int 0, .int 0, .int (-1), .ref q24, .ref q25, .ref q26, .ref q27, .ref q28, .ref q29, .ref q30, .ref q31, .ref q32, .int 0, .int 0, .int 0, .int 0, .ref q33, .ref q34, .ref q35, .ref q36, .ref q37, .null]) clX8 (by decide) wf_RX8_144 rfl rfl rfl rfl rfl rfl dX8_init_421 ?_
  refine c_aload (pc := 424) 0 dX8_init_424 rfl ?_
  refine c_iconst (pc := 425) 3 dX8_init_425 (by decide) ?_
  refine c_newI0 (pc := 426) (3) dX8_init_426 (by decide) (by decide) (by decide) (by decide) (by decide) (fun q38 => ?_)
  refine c_putF0 (pc := 428) (j := 62) (fs' := [.ref q1, .ref q2, .int 0, .ref q3, .ref q4, .ref q5, .ref q6, .ref q7, .ref q8, .ref q9, .ref q10, .ref q11, .ref q12, .ref q13, .int 0, .int 0, .int 0, .int 0, .int 0, .int 0, .int 0, .int 0, .int 0, .int (-1), .ref q14, .ref q15, .ref q16, .ref q17, .ref q18, .int 0, .int 0, .int 0, .int 0, .int 0, .int 0, .ref q19, .ref q20, .ref q21, .ref q22, .ref q23, .int (-1), .int 0, .int 0, .int (-1), .ref q24, .ref q25, .ref q26, .ref q27, .ref q28, .ref q29, .ref q30, .ref q31, .ref q32, .int 0, .int 0, .int 0, .int 0, .ref q33, .ref q34, .ref q35, .ref q36, .ref q37, .ref q38]) clX8 (by decide) wf_RX8_147 rfl rfl rfl rfl rfl rfl dX8_init_428 ?_
  refine c_ret (pc := 431) dX8_init_431 (by decide) (by decide) ?_ E
  refine ⟨A8 t (fun c => nth 0 [q1, q2, q3, q4, q5, q6, q7, q8, q9, q10, q11, q12, q13, q14, q15, q16, q17, q18, q19, q20, q21, q22, q23, q24, q25, q26, q27, q28, q29, q30, q31, q32, q33, q34, q35, q36, q37, q38] (c - 48)) (adX X), rfl, (fun _ => rfl), congrArg (pre (cyX X) ++ ·) ?_⟩
  exact e8 (t := t) (q := fun c => nth 0 [q1, q2, q3, q4, q5, q6, q7, q8, q9, q10, q11, q12, q13, q14, q15, q16, q17, q18, q19, q20, q21, q22, q23, q24, q25, q26, q27, q28, q29, q30, q31, q32, q33, q34, q35, q36, q37, q38] (c - 48)) (adS := adX X) (cy := cyX X))
