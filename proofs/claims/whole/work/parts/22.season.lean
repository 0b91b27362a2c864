theorem dX7_season_0 : decode cX7_season 0 = .ok (.iload_n 3, 1) := by decide +kernel
theorem dX7_season_1 : decode cX7_season 1 = .ok (.iconst 2, 1) := by decide +kernel
theorem dX7_season_2 : decode cX7_season 2 = .ok (.invokestatic 152, 3) := by decide +kernel
theorem dX7_season_5 : decode cX7_season 5 = .ok (.iload_n 2, 1) := by decide +kernel
theorem dX7_season_6 : decode cX7_season 6 = .ok (.bipush 40, 2) := by decide +kernel
theorem dX7_season_8 : decode cX7_season 8 = .ok (.invokestatic 226, 3) := by decide +kernel
theorem dX7_season_11 : decode cX7_season 11 = .ok (.ifCond .eq 14, 3) := by decide +kernel
theorem dX7_season_14 : decode cX7_season 14 = .ok (.new 65, 3) := by decide +kernel
theorem dX7_season_17 : decode cX7_season 17 = .ok (.dup, 1) := by decide +kernel
theorem dX7_season_18 : decode cX7_season 18 = .ok (.ldc_w 293, 3) := by decide +kernel
theorem dX7_season_21 : decode cX7_season 21 = .ok (.invokespecial 69, 3) := by decide +kernel
theorem dX7_season_24 : decode cX7_season 24 = .ok (.athrow, 1) := by decide +kernel
theorem dX7_season_25 : decode cX7_season 25 = .ok (.aload_n 0, 1) := by decide +kernel
theorem dX7_season_26 : decode cX7_season 26 = .ok (.getfield 51, 3) := by decide +kernel
theorem dX7_season_29 : decode cX7_season 29 = .ok (.aload_n 0, 1) := by decide +kernel
theorem dX7_season_30 : decode cX7_season 30 = .ok (.getfield 16, 3) := by decide +kernel
theorem dX7_season_33 : decode cX7_season 33 = .ok (.aload_n 0, 1) := by decide +kernel
theorem dX7_season_34 : decode cX7_season 34 = .ok (.getfield 35, 3) := by decide +kernel
theorem dX7_season_37 : decode cX7_season 37 = .ok (.invokevirtual 247, 3) := by decide +kernel
theorem dX7_season_40 : decode cX7_season 40 = .ok (.aload_n 0, 1) := by decide +kernel
theorem dX7_season_41 : decode cX7_season 41 = .ok (.getfield 51, 3) := by decide +kernel
theorem dX7_season_44 : decode cX7_season 44 = .ok (.invokevirtual 250, 3) := by decide +kernel
theorem dX7_season_47 : decode cX7_season 47 = .ok (.new 295, 3) := by decide +kernel
theorem dX7_season_50 : decode cX7_season 50 = .ok (.dup, 1) := by decide +kernel
theorem dX7_season_51 : decode cX7_season 51 = .ok (.iload_n 1, 1) := by decide +kernel
theorem dX7_season_52 : decode cX7_season 52 = .ok (.invokespecial 297, 3) := by decide +kernel
theorem dX7_season_55 : decode cX7_season 55 = .ok (.astore 4, 2) := by decide +kernel
theorem dX7_season_57 : decode cX7_season 57 = .ok (.iconst 0, 1) := by decide +kernel
theorem dX7_season_58 : decode cX7_season 58 = .ok (.istore 5, 2) := by decide +kernel
theorem dX7_season_60 : decode cX7_season 60 = .ok (.iload_n 2, 1) := by decide +kernel
theorem dX7_season_61 : decode cX7_season 61 = .ok (.ifCond .ne 7, 3) := by decide +kernel
theorem dX7_season_64 : decode cX7_season 64 = .ok (.iconst 0, 1) := by decide +kernel
theorem dX7_season_65 : decode cX7_season 65 = .ok (.goto 5, 3) := by decide +kernel
theorem dX7_season_68 : decode cX7_season 68 = .ok (.bipush 6, 2) := by decide +kernel
theorem dX7_season_70 : decode cX7_season 70 = .ok (.istore 6, 2) := by decide +kernel
theorem dX7_season_72 : decode cX7_season 72 = .ok (.iconst 0, 1) := by decide +kernel
theorem dX7_season_73 : decode cX7_season 73 = .ok (.istore 7, 2) := by decide +kernel
theorem dX7_season_75 : decode cX7_season 75 = .ok (.iconst 0, 1) := by decide +kernel
theorem dX7_season_76 : decode cX7_season 76 = .ok (.istore 8, 2) := by decide +kernel
theorem dX7_season_78 : decode cX7_season 78 = .ok (.iload 8, 2) := by decide +kernel
theorem dX7_season_80 : decode cX7_season 80 = .ok (.iload_n 2, 1) := by decide +kernel
theorem dX7_season_81 : decode cX7_season 81 = .ok (.if_icmp .ge 55, 3) := by decide +kernel
theorem dX7_season_84 : decode cX7_season 84 = .ok (.aload_n 0, 1) := by decide +kernel
theorem dX7_season_85 : decode cX7_season 85 = .ok (.aload 4, 2) := by decide +kernel
theorem dX7_season_87 : decode cX7_season 87 = .ok (.invokevirtual 299, 3) := by decide +kernel
theorem dX7_season_90 : decode cX7_season 90 = .ok (.istore 9, 2) := by decide +kernel
theorem dX7_season_92 : decode cX7_season 92 = .ok (.iload 5, 2) := by decide +kernel
theorem dX7_season_94 : decode cX7_season 94 = .ok (.iload 9, 2) := by decide +kernel
theorem dX7_season_96 : decode cX7_season 96 = .ok (.iadd, 1) := by decide +kernel
theorem dX7_season_97 : decode cX7_season 97 = .ok (.istore 5, 2) := by decide +kernel
theorem dX7_season_99 : decode cX7_season 99 = .ok (.iload 6, 2) := by decide +kernel
theorem dX7_season_101 : decode cX7_season 101 = .ok (.iload 9, 2) := by decide +kernel
theorem dX7_season_103 : decode cX7_season 103 = .ok (.invokestatic 303, 3) := by decide +kernel
theorem dX7_season_106 : decode cX7_season 106 = .ok (.istore 6, 2) := by decide +kernel
theorem dX7_season_108 : decode cX7_season 108 = .ok (.iload 7, 2) := by decide +kernel
theorem dX7_season_110 : decode cX7_season 110 = .ok (.iload 9, 2) := by decide +kernel
theorem dX7_season_112 : decode cX7_season 112 = .ok (.aload_n 0, 1) := by decide +kernel
theorem dX7_season_113 : decode cX7_season 113 = .ok (.getfield 16, 3) := by decide +kernel
theorem dX7_season_116 : decode cX7_season 116 = .ok (.getfield 110, 3) := by decide +kernel
theorem dX7_season_119 : decode cX7_season 119 = .ok (.if_icmp .ne 7, 3) := by decide +kernel
theorem dX7_season_122 : decode cX7_season 122 = .ok (.iconst 1, 1) := by decide +kernel
theorem dX7_season_123 : decode cX7_season 123 = .ok (.goto 4, 3) := by decide +kernel
theorem dX7_season_126 : decode cX7_season 126 = .ok (.iconst 0, 1) := by decide +kernel
theorem dX7_season_127 : decode cX7_season 127 = .ok (.iadd, 1) := by decide +kernel
theorem dX7_season_128 : decode cX7_season 128 = .ok (.istore 7, 2) := by decide +kernel
theorem dX7_season_130 : decode cX7_season 130 = .ok (.iinc 8 1, 3) := by decide +kernel
theorem dX7_season_133 : decode cX7_season 133 = .ok (.goto (-55), 3) := by decide +kernel
theorem dX7_season_136 : decode cX7_season 136 = .ok (.iload_n 3, 1) := by decide +kernel
theorem dX7_season_137 : decode cX7_season 137 = .ok (.ifCond .ne 8, 3) := by decide +kernel
theorem dX7_season_140 : decode cX7_season 140 = .ok (.iload 5, 2) := by decide +kernel
theorem dX7_season_142 : decode cX7_season 142 = .ok (.goto 15, 3) := by decide +kernel
theorem dX7_season_145 : decode cX7_season 145 = .ok (.iload_n 3, 1) := by decide +kernel
theorem dX7_season_146 : decode cX7_season 146 = .ok (.iconst 1, 1) := by decide +kernel
theorem dX7_season_147 : decode cX7_season 147 = .ok (.if_icmp .ne 8, 3) := by decide +kernel
theorem dX7_season_150 : decode cX7_season 150 = .ok (.iload 6, 2) := by decide +kernel
theorem dX7_season_152 : decode cX7_season 152 = .ok (.goto 5, 3) := by decide +kernel
theorem dX7_season_155 : decode cX7_season 155 = .ok (.iload 7, 2) := by decide +kernel
theorem dX7_season_157 : decode cX7_season 157 = .ok (.ireturn, 1) := by decide +kernel
def f_X7_season_78   : Nat → Mem → PMem → Int32 → Int32 → Int32 → Int32 → Int32 → Int32 → Option (Int32 × Mem × PMem)
  | 0, _, _, _, _, _, _, _, _ => none
  | fu + 1, I, P, v2, v3, v5, v6, v7, v8 =>
    if v2 ≤ v8 then (if v3 = 0 then (some (v5, I, P)) else (if v3 = (1 : Int32) then (some (v6, I, P)) else (some (v7, I, P)))) else ((f_X7_guiltyInYear P I).bind fun y1 =>
    bnd (v5 + y1.1) fun x1 =>
    bnd (jmin v6 y1.1) fun x2 =>
    gd (decide ((P 7 0 0 2) < 2)) <|
    if y1.1 = (y1.2 3 (P 7 0 0 2) 0 13) then (bnd (v7 + (1 : Int32)) fun x4 =>
    (f_X7_season_78 fu) y1.2 P v2 v3 x1 x2 x4 (v8 + (1 : Int32))) else (bnd (v7 + (0 : Int32)) fun x3 =>
    (f_X7_season_78 fu) y1.2 P v2 v3 x1 x2 x3 (v8 + (1 : Int32))))
theorem b_X7_season_78 (X : CX) (Q : State → Prop) {O : Nat → Int64} {D : Bool} {n : Nat} {r : (Int32 × Mem × PMem)}  (hD : D = true) : ∀ (fu : Nat) {I : Mem} {P : PMem} {v2 : Int32} {v3 : Int32} {v5 : Int32} {v6 : Int32} {v7 : Int32} {v8 : Int32}, f_X7_season_78 fu I P v2 v3 v5 v6 v7 v8 = some r → EndR X cX7_season RX7 10 (some .int) 9 n (some (.inl r.1)) r.2.1 r.2.2 O D Q → Here X cX7_season RX7 10 (some .int) 9 n 78 [some (.inr (.inr (7, 0, 0))), none, some (.inl v2), some (.inl v3), some (.inr (.inr (2, 0, 0))), some (.inl v5), some (.inl v6), some (.inl v7), some (.inl v8), none] [] I P O D n Q := by
  intro fu
  induction fu with
  | zero => intro I P v2 v3 v5 v6 v7 v8 h E; cases h
  | succ fu ih =>
  intro I P v2 v3 v5 v6 v7 v8 h E
  have H78 : ∀ (I : Mem) (P : PMem) (v2 : Int32) (v3 : Int32) (v5 : Int32) (v6 : Int32) (v7 : Int32) (v8 : Int32), f_X7_season_78 fu I P v2 v3 v5 v6 v7 v8 = some r → Here X cX7_season RX7 10 (some .int) 9 n 78 [some (.inr (.inr (7, 0, 0))), none, some (.inl v2), some (.inl v3), some (.inr (.inr (2, 0, 0))), some (.inl v5), some (.inl v6), some (.inl v7), some (.inl v8), none] [] I P O D n Q := fun _ _ _ _ _ _ _ _ b => ih b E
  simp only [f_X7_season_78] at h
  refine h_iload dX7_season_78 rfl ?_
  refine h_iload_n dX7_season_80 rfl ?_
  refine h_icmp_ge (tgt := 136) dX7_season_81 (by decide) (fun q1 => ?_) (fun q1 => ?_)
  · rw [if_pos q1] at h
    refine h_iload_n dX7_season_136 rfl ?_
    refine h_if_ne (tgt := 145) dX7_season_137 (by decide) (fun q2 => ?_) (fun q2 => ?_)
    · rw [if_neg q2] at h
      refine h_iload_n dX7_season_145 rfl ?_
      refine h_iconst (1 : Int32) dX7_season_146 k_iconst_1 ?_
      refine h_icmp_ne (tgt := 155) dX7_season_147 (by decide) (fun q3 => ?_) (fun q3 => ?_)
      · rw [if_neg q3] at h
        refine h_iload dX7_season_155 rfl ?_
        cases h
        exact h_iret dX7_season_157 rfl E
      · rw [if_pos q3] at h
        refine h_iload dX7_season_150 rfl ?_
        refine h_goto (tgt := 157) dX7_season_152 (by decide) ?_
        cases h
        exact h_iret dX7_season_157 rfl E
    · rw [if_pos q2] at h
      refine h_iload dX7_season_140 rfl ?_
      refine h_goto (tgt := 157) dX7_season_142 (by decide) ?_
      cases h
      exact h_iret dX7_season_157 rfl E
  · rw [if_neg q1] at h
    refine h_aload_n dX7_season_84 rfl ?_
    refine h_aload dX7_season_85 rfl ?_
    obtain ⟨y1, hh1, h⟩ := obd_some h
    refine h_cVi [.inr (.inr (2, 0, 0))] (m_X7_guiltyInYear hD hh1) cw_X7_299 dX7_season_87 rfl ok_7 (by decide) rfl (Or.inr rfl) rfl ?_
    refine h_istore dX7_season_90 (by decide) rfl ?_
    refine h_iload dX7_season_92 rfl ?_
    refine h_iload dX7_season_94 rfl ?_
    refine h_iadd dX7_season_96 ?_
    obtain ⟨x1, e1, h⟩ := bnd_some h
    refine h_nmv e1 ?_
    refine h_istore dX7_season_97 (by decide) rfl ?_
    refine h_iload dX7_season_99 rfl ?_
    refine h_iload dX7_season_101 rfl ?_
    refine h_min dX7_season_103 ml_X7_303 wm1_min wm2 wm3_min (by decide) rfl ?_
    obtain ⟨x2, e2, h⟩ := bnd_some h
    refine h_nmv e2 ?_
    refine h_istore dX7_season_106 (by decide) rfl ?_
    refine h_iload dX7_season_108 rfl ?_
    refine h_iload dX7_season_110 rfl ?_
    refine h_aload_n dX7_season_112 rfl ?_
    refine g_X7_16  dX7_season_113 ?_
    obtain ⟨g1, h⟩ := gd_some h
    have w1 := of_decide_eq_true g1
    refine g_X7_110 (by omega) dX7_season_116 ?_
    refine h_icmp_ne (tgt := 126) dX7_season_119 (by decide) (fun q4 => ?_) (fun q4 => ?_)
    · rw [if_neg q4] at h
      refine h_iconst (0 : Int32) dX7_season_126 k_iconst_0 ?_
      refine h_iadd dX7_season_127 ?_
      obtain ⟨x3, e3, h⟩ := bnd_some h
      refine h_nmv e3 ?_
      refine h_istore dX7_season_128 (by decide) rfl ?_
      refine h_iinc (1 : Int32) dX7_season_130 rfl k_iinc_1 (by decide) rfl ?_
      refine h_goto (tgt := 78) dX7_season_133 (by decide) ?_
      exact h_mask [true, false, true, true, true, true, true, true, true, false] (H78 _ _ _ _ _ _ _ _ h)
    · rw [if_pos q4] at h
      refine h_iconst (1 : Int32) dX7_season_122 k_iconst_1 ?_
      refine h_goto (tgt := 127) dX7_season_123 (by decide) ?_
      refine h_iadd dX7_season_127 ?_
      obtain ⟨x4, e4, h⟩ := bnd_some h
      refine h_nmv e4 ?_
      refine h_istore dX7_season_128 (by decide) rfl ?_
      refine h_iinc (1 : Int32) dX7_season_130 rfl k_iinc_1 (by decide) rfl ?_
      refine h_goto (tgt := 78) dX7_season_133 (by decide) ?_
      exact h_mask [true, false, true, true, true, true, true, true, true, false] (H78 _ _ _ _ _ _ _ _ h)
def f_X7_season_70   (I : Mem) (P : PMem) (v2 : Int32) (v3 : Int32) (v5 : Int32) (s0 : Int32) : Option (Int32 × Mem × PMem) :=
  f_X7_season_78 FU I P v2 v3 v5 s0 (0 : Int32) (0 : Int32)
theorem b_X7_season_70 (X : CX) (Q : State → Prop) {I : Mem} {P : PMem} {O : Nat → Int64} {D : Bool} {n : Nat} {v2 : Int32} {v3 : Int32} {v5 : Int32} {s0 : Int32} {r : (Int32 × Mem × PMem)}  (hD : D = true) (h : f_X7_season_70 I P v2 v3 v5 s0 = some r) (E : EndR X cX7_season RX7 10 (some .int) 9 n (some (.inl r.1)) r.2.1 r.2.2 O D Q) : Here X cX7_season RX7 10 (some .int) 9 n 70 [some (.inr (.inr (7, 0, 0))), none, some (.inl v2), some (.inl v3), some (.inr (.inr (2, 0, 0))), some (.inl v5), none, none, none, none] [.inl s0] I P O D n Q := by
  unfold f_X7_season_70 at h
  refine h_istore dX7_season_70 (by decide) rfl ?_
  refine h_iconst (0 : Int32) dX7_season_72 k_iconst_0 ?_
  refine h_istore dX7_season_73 (by decide) rfl ?_
  refine h_iconst (0 : Int32) dX7_season_75 k_iconst_0 ?_
  refine h_istore dX7_season_76 (by decide) rfl ?_
  exact (b_X7_season_78 X Q hD FU  h E)
def f_X7_season   (I : Mem) (P : PMem) (v1 : Int32) (v2 : Int32) (v3 : Int32) : Option ((Int32 × Mem × PMem) ⊕ Nat) :=
  thb (f_X7_requireWhat I v3 (2 : Int32)) fun y1 =>
  (f_X7_isOutside I v2 (40 : Int32)).bind fun y2 =>
  if y2 = 0 then (gd (decide ((P 7 0 0 2) < 2)) <|
  (f_X1_load 1 (P 7 0 0 2) 0 I P).bind fun y3 =>
  (f_X1_hearAll y3.2 1 y3.1).bind fun y4 =>
  bnd (upd4 (upd4 y4 2 0 0 0 0) 2 0 0 0 v1) fun I1' =>
  if v2 = 0 then ((f_X7_season_70 I1' y3.2 v2 v3 (0 : Int32) (0 : Int32)).bind fun yy => some (Sum.inl yy)) else ((f_X7_season_70 I1' y3.2 v2 v3 (0 : Int32) (6 : Int32)).bind fun yy => some (Sum.inl yy))) else (some (Sum.inr 0))
theorem b_X7_season (X : CX) (Q : State → Prop) {I : Mem} {P : PMem} {O : Nat → Int64} {D : Bool} {n : Nat} {v1 : Int32} {v2 : Int32} {v3 : Int32} {r : (Int32 × Mem × PMem)}  (h : f_X7_season I P v1 v2 v3 = some (Sum.inl r)) (E : EndR X cX7_season RX7 10 (some .int) 9 (n + 1) (some (.inl r.1)) r.2.1 r.2.2 O true Q) : Here X cX7_season RX7 10 (some .int) 9 (n + 1) 0 [some (.inr (.inr (7, 0, 0))), some (.inl v1), some (.inl v2), some (.inl v3), none, none, none, none, none, none] [] I P O D n Q := by
  unfold f_X7_season at h
  refine h_iload_n dX7_season_0 rfl ?_
  refine h_iconst (2 : Int32) dX7_season_1 k_iconst_2 ?_
  obtain ⟨y1, hh1, h⟩ := thb_R h
  refine h_cSv [.inl v3, .inl (2 : Int32)] (m_X7_requireWhat  hh1) cs_X7_152 dX7_season_2 rfl (by decide) rfl (Or.inr rfl) rfl ?_
  refine h_iload_n dX7_season_5 rfl ?_
  refine h_bipush (40 : Int32) dX7_season_6 k_bipush_40 ?_
  obtain ⟨y2, hh2, h⟩ := obd_some h
  refine h_cSi [.inl v2, .inl (40 : Int32)] (m_X7_isOutside  hh2) cs_X7_226 dX7_season_8 rfl (by decide) rfl (Or.inr rfl) rfl ?_
  refine h_if_eq (tgt := 25) dX7_season_11 (by decide) (fun q1 => ?_) (fun q1 => ?_)
  · rw [if_pos q1] at h
    refine h_aload_n dX7_season_25 rfl ?_
    refine g_X7_51  dX7_season_26 ?_
    refine h_aload_n dX7_season_29 rfl ?_
    refine g_X7_16  dX7_season_30 ?_
    obtain ⟨g1, h⟩ := gd_some h
    have w1 := of_decide_eq_true g1
    refine h_aload_n dX7_season_33 rfl ?_
    refine g_X7_35  dX7_season_34 ?_
    obtain ⟨y3, hh3, h⟩ := obd_some h
    refine h_cVv [.inr (.inr (3, (P 7 0 0 2), 0)), .inr (.inr (0, 0, 0))] (m_X1_load (by decide) (by omega) (by decide) hh3) cw_X7_247 dX7_season_37 rfl (ok_1 (by decide)) (by decide) rfl (Or.inr rfl) rfl ?_
    refine h_aload_n dX7_season_40 rfl ?_
    refine g_X7_51  dX7_season_41 ?_
    obtain ⟨y4, hh4, h⟩ := obd_some h
    refine h_cVv [] (m_X1_hearAll (by decide) hh4) cw_X7_250 dX7_season_44 rfl (ok_1 (by decide)) (by decide) rfl (Or.inr rfl) rfl ?_
    obtain ⟨I1', e1, h⟩ := bnd_some h
    refine h_mkD rfl (by decide) rfl rfl dX7_season_47 dX7_season_50 dX7_season_51 dX7_season_52 ?_
    refine h_nmI e1 ?_
    refine h_astore dX7_season_55 (by decide) rfl ?_
    refine h_iconst (0 : Int32) dX7_season_57 k_iconst_0 ?_
    refine h_istore dX7_season_58 (by decide) rfl ?_
    refine h_iload_n dX7_season_60 rfl ?_
    refine h_if_ne (tgt := 68) dX7_season_61 (by decide) (fun q2 => ?_) (fun q2 => ?_)
    · rw [if_neg q2] at h
      refine h_bipush (6 : Int32) dX7_season_68 k_bipush_6 ?_
      obtain ⟨yy, hj, h⟩ := obd_some h
      cases h
      exact h_mask [true, false, true, true, true, true, false, false, false, false] (b_X7_season_70 X Q rfl  hj E)
    · rw [if_pos q2] at h
      refine h_iconst (0 : Int32) dX7_season_64 k_iconst_0 ?_
      refine h_goto (tgt := 70) dX7_season_65 (by decide) ?_
      obtain ⟨yy, hj, h⟩ := obd_some h
      cases h
      exact h_mask [true, false, true, true, true, true, false, false, false, false] (b_X7_season_70 X Q rfl  hj E)
  · rw [if_neg q1] at h
    cases h
theorem bx_X7_season (X : CX) (Q : State → Prop) {I : Mem} {P : PMem} {O : Nat → Int64} {D : Bool} {n : Nat} {v1 : Int32} {v2 : Int32} {v3 : Int32} {r : Nat}  (h : f_X7_season I P v1 v2 v3 = some (Sum.inr r)) (E : EndX X cX7_season RX7 10 (some .int) 9 (n + 1) r I P O D Q) : Here X cX7_season RX7 10 (some .int) 9 (n + 1) 0 [some (.inr (.inr (7, 0, 0))), some (.inl v1), some (.inl v2), some (.inl v3), none, none, none, none, none, none] [] I P O D n Q := by
  unfold f_X7_season at h
  refine h_iload_n dX7_season_0 rfl ?_
  refine h_iconst (2 : Int32) dX7_season_1 k_iconst_2 ?_
  rcases thb_X h with hh1 | ⟨y1, hh1, h⟩
  · exact h_callSX (as := [.inl v3, .inl (2 : Int32)]) (mx_X7_requireWhat  hh1) cs_X7_152 dX7_season_2 rfl (by decide) rfl rfl E
  refine h_cSv [.inl v3, .inl (2 : Int32)] (m_X7_requireWhat  hh1) cs_X7_152 dX7_season_2 rfl (by decide) rfl (Or.inr rfl) rfl ?_
  refine h_iload_n dX7_season_5 rfl ?_
  refine h_bipush (40 : Int32) dX7_season_6 k_bipush_40 ?_
  obtain ⟨y2, hh2, h⟩ := obd_some h
  refine h_cSi [.inl v2, .inl (40 : Int32)] (m_X7_isOutside  hh2) cs_X7_226 dX7_season_8 rfl (by decide) rfl (Or.inr rfl) rfl ?_
  refine h_if_eq (tgt := 25) dX7_season_11 (by decide) (fun q1 => ?_) (fun q1 => ?_)
  · rw [if_pos q1] at h
    refine h_aload_n dX7_season_25 rfl ?_
    refine g_X7_51  dX7_season_26 ?_
    refine h_aload_n dX7_season_29 rfl ?_
    refine g_X7_16  dX7_season_30 ?_
    obtain ⟨g1, h⟩ := gd_some h
    have w1 := of_decide_eq_true g1
    refine h_aload_n dX7_season_33 rfl ?_
    refine g_X7_35  dX7_season_34 ?_
    obtain ⟨y3, hh3, h⟩ := obd_some h
    refine h_cVv [.inr (.inr (3, (P 7 0 0 2), 0)), .inr (.inr (0, 0, 0))] (m_X1_load (by decide) (by omega) (by decide) hh3) cw_X7_247 dX7_season_37 rfl (ok_1 (by decide)) (by decide) rfl (Or.inr rfl) rfl ?_
    refine h_aload_n dX7_season_40 rfl ?_
    refine g_X7_51  dX7_season_41 ?_
    obtain ⟨y4, hh4, h⟩ := obd_some h
    refine h_cVv [] (m_X1_hearAll (by decide) hh4) cw_X7_250 dX7_season_44 rfl (ok_1 (by decide)) (by decide) rfl (Or.inr rfl) rfl ?_
    obtain ⟨I1', e1, h⟩ := bnd_some h
    refine h_mkD rfl (by decide) rfl rfl dX7_season_47 dX7_season_50 dX7_season_51 dX7_season_52 ?_
    refine h_nmI e1 ?_
    refine h_astore dX7_season_55 (by decide) rfl ?_
    refine h_iconst (0 : Int32) dX7_season_57 k_iconst_0 ?_
    refine h_istore dX7_season_58 (by decide) rfl ?_
    refine h_iload_n dX7_season_60 rfl ?_
    refine h_if_ne (tgt := 68) dX7_season_61 (by decide) (fun q2 => ?_) (fun q2 => ?_)
    · rw [if_neg q2] at h
      refine h_bipush (6 : Int32) dX7_season_68 k_bipush_6 ?_
      obtain ⟨yy, hj, h⟩ := obd_some h
      cases h
    · rw [if_pos q2] at h
      refine h_iconst (0 : Int32) dX7_season_64 k_iconst_0 ?_
      refine h_goto (tgt := 70) dX7_season_65 (by decide) ?_
      obtain ⟨yy, hj, h⟩ := obd_some h
      cases h
  · rw [if_neg q1] at h
    cases h
    exact h_throwW (text := "not 0 to 40 years") (j := 21) tw_0 (by decide) (by decide) rfl dX7_season_14 dX7_season_17 dX7_season_18 dX7_season_21 dX7_season_24 E
theorem m_X7_season {I : Mem} {P : PMem} {O : Nat → Int64} {D : Bool} {n : Nat} {v1 : Int32} {v2 : Int32} {v3 : Int32} {r : (Int32 × Mem × PMem)}  (h : f_X7_season I P v1 v2 v3 = some (Sum.inl r)) : MethR yX7_season cX7_season 10 (some .int) 9 [.inr (.inr (7, 0, 0)), .inl v1, .inl v2, .inl v3] I P O D n (some (.inl r.1)) r.2.1 r.2.2 O true (n + 1) := meth_R (Nat.le_succ _) (by decide) rfl (Nat.le_of_ble_eq_true rfl) rfl (fun X Q E => b_X7_season X Q  h E)
theorem mx_X7_season {I : Mem} {P : PMem} {O : Nat → Int64} {D : Bool} {n : Nat} {v1 : Int32} {v2 : Int32} {v3 : Int32} {r : Nat}  (h : f_X7_season I P v1 v2 v3 = some (Sum.inr r)) : MethX yX7_season cX7_season 10 (some .int) 9 [.inr (.inr (7, 0, 0)), .inl v1, .inl v2, .inl v3] I P O D n r I P O D (n + 1) := meth_X (Nat.le_succ _) (by decide) rfl (Nat.le_of_ble_eq_true rfl) rfl (fun X Q E => bx_X7_season X Q  h E)
