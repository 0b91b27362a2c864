/-! a line, and all lines, in both -/
def dn (D : Dft) (len : Nat) : Int32 := (if dgg D = 0 then 0 else 1) ||| (if len = 0 then 0 else 2)
theorem dn_1 {D : Dft} {len : Nat} : ((1 : Int32) &&& dn D len = 0) ↔ dgg D = 0 := by
  unfold dn
  by_cases h : dgg D = 0 <;> by_cases h2 : len = 0 <;> simp [h, h2] <;> decide
theorem dn_2 {D : Dft} {len : Nat} : ((2 : Int32) &&& dn D len = 0) ↔ len = 0 := by
  unfold dn
  by_cases h : dgg D = 0 <;> by_cases h2 : len = 0 <;> simp [h, h2] <;> decide
theorem bI_f0 : (bI false = 0) = True := eq_true rfl
theorem bI_t0 : (bI true = 0) = False := eq_false bI_t
def QL (X : PX) (b : Nat) (I' : Mem) (r : Int32 × Mem) : Prop := Dd X I' r.2 ∨ ∃ b' e' k' D' cd' len', Al X I' r.2 b' e' k' D' cd' len' ∧ b < b' ∧ NP D' ∧ len' ≤ b' ∧ (len' = 0 ∨ hg cd' len' = 1) ∧ r.1 = dn D' len'
section
variable {X : PX} {P : PMem} {I R : Mem} {b e k len : Nat} {D : Dft} {cd : Nat → Nat}
theorem D_semi (dd : Dd X I R) (v w : Int32) : W2 (f_X5_readLine_136 P I) (f_X8_readLine_163 R v w) (QL X b) := by
  unfold f_X5_readLine_136 f_X8_readLine_163
  rw [d_tsign (Dd_c dd) (Dd_4 dd), d_mark (Dd_r dd), Option.bind_some, Option.bind_some]
  exact w2_some (Or.inl dd)
theorem L_semi {b0 : Nat} (hX : POK X) (A : Al X I R b e k D cd len) (v w : Int32) (hb : b0 < b) (hN : NP D) (hl : len ≤ b) (hh : len = 0 ∨ hg cd len = 1) (hd : v ||| w = dn D len) : W2 (f_X5_readLine_136 P I) (f_X8_readLine_163 R v w) (QL X b0) := by
  unfold f_X5_readLine_136 f_X8_readLine_163
  refine w2_bb (L_tsign hX A (c := 59) (by omega) rfl) ?_
  rintro I1 R1 (⟨b1, e1, k1, A1, h1, h2⟩ | dd)
  · exact w2_some (Or.inr ⟨b1, e1, k1, D, cd, len, A1, by omega, hN, by omega, hh, hd⟩)
  · exact w2_some (Or.inl dd)
theorem or_0 (x : Int32) : x ||| 0 = x := Int32.or_zero
theorem L_fin {x y : Option Mem} (hX : POK X) (h : W2 x y (LnR X b D cd len)) (hN : NP D) (hl : len ≤ b) (hh : len = 0 ∨ hg cd len = 1) : W2 (x.bind fun y => f_X5_readLine_136 P y) (y.bind fun y => f_X8_readLine_163 y (dn D len) 0) (QL X b) := by
  refine w2_bb h ?_
  rintro I1 R1 (dd | ⟨b1, e1, k1, D1, A1, h1, h2⟩)
  · exact D_semi dd _ _
  · obtain ⟨g1, g2⟩ := Prod.mk.inj h2
    obtain ⟨g2, g3⟩ := Prod.mk.inj g2
    refine L_semi hX A1 _ _ h1 ?_ (by omega) hh ?_
    · unfold NP at *; rw [g2, g3]; exact hN
    · rw [or_0]; unfold dn; rw [g1]
theorem L_finC {x y : Option Mem} (hX : POK X) (h : W2 x y (CR X b D cd len)) (hl : len ≤ b) (hh : len = 0 ∨ hg cd len = 1) : W2 (x.bind fun y => f_X5_readLine_136 P y) (y.bind fun y => f_X8_readLine_163 y (dn D len) 0) (QL X b) := by
  refine w2_bb h ?_
  rintro I1 R1 (dd | ⟨b1, e1, k1, D1, A1, h1, h2, h3⟩)
  · exact D_semi dd _ _
  · refine L_semi hX A1 _ _ h1 h3 (by omega) hh ?_
    rw [or_0]; unfold dn; rw [h2]
theorem L_line (hX : POK X) (hP : P 5 0 0 4 = pxd X) (A : Al X I R b e k D cd len) (hk : k ≠ 0) (hN : NP D) (hl : len ≤ b) (hh : len = 0 ∨ hg cd len = 1) : W2 (f_X5_readLine P I) (f_X8_readLine R (dn D len)) (QL X b) := by
  have hb := A_b A
  have hb2 := hb.2.2.2.2.2 hk
  have cw : ∀ z, z < 25 → f_X5_isWord I z = some (bI (decide (k = 1) && wI (pxt X) b e z)) := fun z hz => (L_word hX A hz).1
  have rw' : ∀ z, z < 25 → f_X8_is R z = some (bI (decide (k = 1) && wI (pxt X) b e z)) := fun z hz => (L_word hX A hz).2
  obtain ⟨w, hw⟩ : ∃ w : Nat → Bool, w = fun z => decide (k = 1) && wI (pxt X) b e z := ⟨_, rfl⟩
  have cw' : ∀ z, z < 25 → f_X5_isWord I z = some (bI (w z)) := by rw [hw]; exact cw
  have rw'' : ∀ z, z < 25 → f_X8_is R z = some (bI (w z)) := by rw [hw]; exact rw'
  have wx : ∀ z z', w z = true → sameW z z' = false → w z' = false := by
    intro z z' h1 h2
    rw [hw] at h1 ⊢
    simp only [Bool.and_eq_true] at h1
    have := wI_ex h1.2 h2
    simp [this]
  have w1 : ∀ z, w z = true → k = 1 := by
    intro z h1
    rw [hw] at h1
    simp only [Bool.and_eq_true, decide_eq_true_eq] at h1
    exact h1.1
  clear cw rw' hw
  have wh : f_X8_which R 48 = some (if ff w 0 3 < 3 then nI (ff w 0 3) else -1) := r_which w rfl (by omega) (fun i hi => by
    show f_X8_is R (0 + i) = _
    rw [Nat.zero_add]; exact rw'' i (by omega))
  unfold f_X5_readLine f_X8_readLine f_X8_readLine_29
  rw [cw' 6 (by omega), cw' 23 (by omega), cw' 11 (by omega), cw' 0 (by omega), cw' 1 (by omega), cw' 2 (by omega), cw' 10 (by omega), cw' 13 (by omega), rw'' 11 (by omega), rw'' 13 (by omega), wh]
  simp only [Option.bind_some]
  unfold f_X8_readLine_50
  simp only [rw'' 6 (by omega), rw'' 23 (by omega), rw'' 10 (by omega), Option.bind_some]
  have z0 : ((0 : Int32) &&& dn D len) = 0 := Int32.zero_and
  have no3 : w 0 = false → w 1 = false → w 2 = false → (if ff w 0 3 < 3 then nI (ff w 0 3) else (-1 : Int32)) = -1 := by
    intro a1 a2 a3; simp [ff, a1, a2, a3]
  cases h6 : w 6
  case true =>
    have q0 := wx 6 0 h6 (by decide); have q1 := wx 6 1 h6 (by decide); have q2 := wx 6 2 h6 (by decide)
    rw [wx 6 11 h6 (by decide), wx 6 13 h6 (by decide), no3 q0 q1 q2]
    simp only [bI_f0, bI_t0, if_true, if_false, z0]
    refine w2_pr (by decide) ?_
    exact L_fin hX (L_readTown hX hP A hk) hN hl hh
  cases h23 : w 23
  case true =>
    have q0 := wx 23 0 h23 (by decide); have q1 := wx 23 1 h23 (by decide); have q2 := wx 23 2 h23 (by decide)
    rw [wx 23 11 h23 (by decide), wx 23 13 h23 (by decide), no3 q0 q1 q2]
    simp only [bI_f0, bI_t0, if_true, if_false, z0]
    refine w2_pr (by decide) ?_
    exact L_fin hX (L_readRoad hX hP A hk) hN hl hh
  cases h11 : w 11
  case true =>
    have q0 := wx 11 0 h11 (by decide); have q1 := wx 11 1 h11 (by decide); have q2 := wx 11 2 h11 (by decide)
    rw [no3 q0 q1 q2]
    simp only [bI_f0, bI_t0, if_true, if_false]
    have k1 := w1 11 h11
    have as : ∀ {o : Option Mem} {f : Mem → Option Mem} {g : Mem → Option Mem}, (o.bind f).bind g = o.bind (fun y => (f y).bind g) := by
      intro o f g; cases o <;> rfl
    unfold f_X5_readGossip f_X8_readLine_65
    rw [hP, A.2.2.2.1.1.1.2.2.2.1, gd_t (dlt hX.1)]
    by_cases g0 : dgg D = 0
    · rw [if_pos g0, if_pos (dn_1.mpr g0), if_neg (by decide), if_pos (Al_r A), as]
      refine w2_bb (L_adv hX A) ?_
      rintro I1 R1 ⟨b1, e1, k1', A1, hb1⟩
      rw [if_pos rfl]
      have lg := L_goss hX hP A1
      have e2 : ((f_X8_readNumber R1 1 40).bind fun y2 => bnd (upd4 y2.2 50 0 0 10 y2.1) fun I1' => f_X8_readLine_163 I1' (dn D len) 1) = ((f_X8_readNumber R1 1 40).bind fun y2 => bnd (upd4 y2.2 50 0 0 10 y2.1) fun I1' => some I1').bind (fun y => f_X8_readLine_163 y (dn D len) 1) := by
        cases f_X8_readNumber R1 1 40 <;> rfl
      rw [e2]
      rw [hP] at lg
      refine w2_bb lg ?_
      rintro I2 R2 (dd | ⟨b2, e2, k2, D2, A2, h1, h2, h3⟩)
      · exact D_semi dd _ _
      · obtain ⟨g2, g3⟩ := Prod.mk.inj h3
        refine L_semi hX A2 _ _ (by omega) ?_ (by omega) hh ?_
        · unfold NP at *; rw [g2, g3]; exact hN
        · unfold dn; rw [if_pos g0, if_neg h2]
          by_cases l0 : len = 0 <;> simp [l0] <;> decide
    · have r := L_ref A (v := 5) (by decide)
      rw [if_neg g0, if_neg (fun y => g0 (dn_1.mp y)), r.1, r.2.1, Option.bind_some, Option.bind_some, Option.bind_some, if_neg (by decide), if_neg (Dd_r r.2.2), if_pos rfl, d_rnum (Dd_r r.2.2), Option.bind_some]
      exact D_semi (Dd_rup r.2.2 (by unfold tRg; omega) (by omega)) _ _
  cases h0 : w 0
  case true =>
    rw [wx 0 13 h0 (by decide)]
    have f0 : (if ff w 0 3 < 3 then nI (ff w 0 3) else (-1 : Int32)) = 0 := by simp [ff, h0]; rfl
    rw [f0]
    simp only [bI_f0, bI_t0, if_true, if_false, z0]
    refine w2_pr (by decide) (w2_nr (by decide) ?_)
    exact L_fin hX (L_readJudge hX hP A hk 0) hN hl hh
  cases h1 : w 1
  case true =>
    rw [wx 1 13 h1 (by decide)]
    have f0 : (if ff w 0 3 < 3 then nI (ff w 0 3) else (-1 : Int32)) = 1 := by simp [ff, h0, h1]; rfl
    rw [f0]
    simp only [bI_f0, bI_t0, if_true, if_false, z0]
    refine w2_pr (by decide) (w2_nr (by decide) ?_)
    exact L_fin hX (L_readJudge hX hP A hk 1) hN hl hh
  cases h2 : w 2
  case true =>
    rw [wx 2 13 h2 (by decide)]
    have f0 : (if ff w 0 3 < 3 then nI (ff w 0 3) else (-1 : Int32)) = 2 := by simp [ff, h0, h1, h2]; rfl
    rw [f0]
    simp only [bI_f0, bI_t0, if_true, if_false, z0]
    refine w2_pr (by decide) (w2_nr (by decide) ?_)
    exact L_fin hX (L_readJudge hX hP A hk 2) hN hl hh
  rw [no3 h0 h1 h2]
  cases h10 : w 10
  case true =>
    rw [wx 10 13 h10 (by decide)]
    simp only [bI_f0, bI_t0, if_true, if_false, z0]
    refine w2_pr (by decide) ?_
    exact L_finC hX (L_readCase hX hP A hk hN) hl hh
  cases h13 : w 13
  case true =>
    simp only [bI_f0, bI_t0, if_true, if_false]
    have as : ∀ {o : Option Mem} {f : Mem → Option Mem} {g : Mem → Option Mem}, (o.bind f).bind g = o.bind (fun y => (f y).bind g) := by
      intro o f g; cases o <;> rfl
    have x1 := A.2.2.2.2.1.1
    have x600 := A.2.2.2.2.2.2.1
    unfold f_X5_readLaw f_X8_readLine_65 f_X4_isTold
    rw [hP, gd_t (dlt hX.1)]
    by_cases l0 : len = 0
    · subst l0
      rw [if_pos (by rw [x1]; decide), Option.bind_some, if_pos rfl, if_pos (dn_2.mpr rfl), if_neg (by decide), if_pos (Al_r A), as]
      refine w2_bb (L_adv hX A) ?_
      rintro I1 R1 ⟨b1, e1, k1', A1, hb1⟩
      rw [if_neg (by decide), as]
      have EE := L_exprs hX hP 6 0 8 (by omega) (by omega) I1 R1 b1 e1 k1' D cd 0 A1 (by omega) (by show 0 + _ ≤ 40; omega)
      refine w2_bb EE ?_
      rintro I2 R2 (dd | ⟨b2, e2, k2, cd2, len2, A2, g1, g2, g3, g4⟩)
      · rw [Option.bind_some]; exact D_semi dd _ _
      · rw [Option.bind_some]
        refine L_semi hX A2 _ _ (by omega) hN (by omega) (Or.inr g3) ?_
        have n0 : ¬ len2 = 0 := by omega
        unfold dn
        by_cases g0 : dgg D = 0 <;> simp [g0, n0]
    · have r := L_ref A (v := 5) (by decide)
      rw [if_neg (by rw [x1]; exact nI_nle (by omega) (by omega)), Option.bind_some, if_neg (by decide), if_neg (fun y => l0 (dn_2.mp y)), r.1, r.2.1, Option.bind_some, Option.bind_some, Option.bind_some, if_neg (by decide), if_neg (Dd_r r.2.2), if_neg (by decide), eX_expr (Dd_r r.2.2), Option.bind_some]
      exact D_semi r.2.2 _ _
  simp only [bI_f0, if_true, z0]
  have r := L_ref A (v := 1) (by decide)
  rw [r.1, Option.bind_some, if_pos (by decide), r.2.1, Option.bind_some]
  exact D_semi r.2.2 _ _
end
/-- where the lines end -/
def QE (X : PX) (I' R' : Mem) : Prop := Dd X I' R' ∨ ∃ b e D cd len, Al X I' R' b e 0 D cd len ∧ NP D ∧ (len = 0 ∨ hg cd len = 1)
theorem L_lines {X : PX} {P : PMem} (hX : POK X) (hP : P 5 0 0 4 = pxd X) {z : Nat} : ∀ m fu fu' i I R v, (Dd X I R ∨ ∃ b e k D cd len, Al X I R b e k D cd len ∧ NP D ∧ len ≤ b ∧ (len = 0 ∨ hg cd len = 1) ∧ v = dn D len ∧ pxn X - b ≤ m ∧ i ≤ b) → m + 1 < fu → m + 1 < fu' →
    ∃ I' R', f_X5_readLand_46 z fu I P (nI i) = f_X5_readLand_77 z I' P ∧ f_X8_land_112 fu' R v = f_X8_land_135 R' ∧ QE X I' R' := by
  have hn := hX.2.1
  intro m
  induction m with
  | zero =>
    intro fu fu' i I R v h hf hf'
    obtain ⟨g, rfl⟩ := Nat.exists_eq_succ_of_ne_zero (by omega : fu ≠ 0)
    obtain ⟨g', rfl⟩ := Nat.exists_eq_succ_of_ne_zero (by omega : fu' ≠ 0)
    rcases h with dd | ⟨b, e, k, D, cd, len, A, hN, hl, hh, hv, hm, hi⟩
    · refine ⟨I, R, ?_, ?_, Or.inl dd⟩
      · unfold f_X5_readLand_46; split
        · rfl
        · rw [if_neg (Dd_c dd)]
      · unfold f_X8_land_112; rw [if_neg (Dd_r dd)]
    · have hb := A_b A
      have k0 : k = 0 := hb.2.2.2.2.1.mpr (by omega)
      subst k0
      refine ⟨I, R, ?_, ?_, Or.inr ⟨b, e, D, cd, len, A, hN, hh⟩⟩
      · unfold f_X5_readLand_46; split
        · rfl
        · rw [if_pos (Al_c A), if_pos (show I 5 0 0 5 = 0 from Al_kc A)]
      · unfold f_X8_land_112; rw [if_pos (Al_r A), if_pos (show R 8 0 0 17 = 0 from Al_kr A)]
  | succ m ih =>
    intro fu fu' i I R v h hf hf'
    obtain ⟨g, rfl⟩ := Nat.exists_eq_succ_of_ne_zero (by omega : fu ≠ 0)
    obtain ⟨g', rfl⟩ := Nat.exists_eq_succ_of_ne_zero (by omega : fu' ≠ 0)
    rcases h with dd | ⟨b, e, k, D, cd, len, A, hN, hl, hh, hv, hm, hi⟩
    · refine ⟨I, R, ?_, ?_, Or.inl dd⟩
      · unfold f_X5_readLand_46; split
        · rfl
        · rw [if_neg (Dd_c dd)]
      · unfold f_X8_land_112; rw [if_neg (Dd_r dd)]
    · have hb := A_b A
      by_cases k0 : k = 0
      · subst k0
        refine ⟨I, R, ?_, ?_, Or.inr ⟨b, e, D, cd, len, A, hN, hh⟩⟩
        · unfold f_X5_readLand_46; split
          · rfl
          · rw [if_pos (Al_c A), if_pos (show I 5 0 0 5 = 0 from Al_kc A)]
        · unfold f_X8_land_112; rw [if_pos (Al_r A), if_pos (show R 8 0 0 17 = 0 from Al_kr A)]
      · have hb2 := hb.2.2.2.2.2 k0
        have kq : ¬ nI k = 0 := nI_ne0 (by omega) (by omega)
        obtain ⟨I1, r, e1, e2, q⟩ := L_line hX hP A k0 hN hl hh
        obtain ⟨I2, R2, e3, e4, q2⟩ := ih g g' (i + 1) I1 r.2 r.1 (by
          rcases q with dd | ⟨b', e', k', D', cd', len', A', h1, h2, h3, h4, h5⟩
          · exact Or.inl dd
          · exact Or.inr ⟨b', e', k', D', cd', len', A', h2, h3, h4, h5, by omega, by omega⟩) (by omega) (by omega)
        refine ⟨I2, R2, ?_, ?_, q2⟩
        · unfold f_X5_readLand_46
          rw [if_neg (show ¬ (600 : Int32) ≤ nI i from nI_ge (b := 600) (by omega) (by omega)), if_pos (Al_c A), if_neg (fun y => kq ((Al_kc A).symm.trans y)), e1, Option.bind_some, nI_1, e3]
        · unfold f_X8_land_112
          rw [if_pos (Al_r A), if_neg (fun y => kq ((Al_kr A).symm.trans y)), hv, e2, Option.bind_some, e4]
