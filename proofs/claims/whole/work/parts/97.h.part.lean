/-! expressions in both -/
def EX (X : PX) (I' R' : Mem) (b : Nat) (D : Dft) (len h : Nat) : Prop :=
  Dd X I' R' ∨ ∃ b' e' k' cd' len', Al X I' R' b' e' k' D cd' len' ∧ b < b' ∧ len' + b ≤ b' + len ∧ hg cd' len' = h + 1 ∧ 0 < len'
def EP (X : PX) (fc fr : Mem → Option Mem) (M : Nat) : Prop := ∀ I R b e k D cd len, Al X I R b e k D cd len → len ≤ b → hg cd len + M ≤ 40 → W2 (fc I) (fr R) (fun I' R' => EX X I' R' b D len (hg cd len))
theorem bI_t : ¬ bI true = 0 := by decide
theorem sI_k {tb : Nat → Nat} {k b c : Nat} (h : sI tb k b c = true) : k = 3 := by
  unfold sI at h; simp only [Bool.and_eq_true, decide_eq_true_eq] at h; exact h.1
theorem rs_9999 {v : Nat} (h : v ≤ 9999) : rs v = nI v := if_pos h
section
variable {X : PX} {P : PMem} {rc : PMem → Mem → Int32 → Option Mem} {rr : Mem → Int32 → Option Mem} {v : Int32} {M : Nat}
/-- one value -/
theorem L_val (hX : POK X) (hP : P 5 0 0 4 = pxd X) {I R : Mem} {b e k : Nat} {D : Dft} {cd : Nat → Nat} {len : Nat} (A : Al X I R b e k D cd len) (hl : len ≤ b) (hM : hg cd len + 1 ≤ 40) (hk : k ≠ 0) {j : Nat} (hj : j < 5) {op : Int32} (hop : op = nI (10000 + j)) :
    W2 (gd (decide (P 5 0 0 4 < 2)) <| (f_X4_add (P 5 0 0 4) I op).bind fun y => f_X5_readValue_130 P y) (f_X8_readPart_56 rr R (nI j)) (fun I' R' => EX X I' R' b D len (hg cd len)) := by
  have hb := A_b A
  have hn := hX.2.1
  have hb2 := hb.2.2.2.2.2 hk
  have hb3 : ¬ pxn X ≤ b := fun y => hk (hb.2.2.2.2.1.mpr y)
  unfold f_X8_readPart_56
  rw [hP]
  refine w2_gdl (dlt hX.1) (w2_bb (L_lay A (by omega) (op := 10000 + j) hop ?_ ⟨by omega, by omega, fun _ => by omega, fun q => by omega, fun q => by omega⟩) ?_)
  · have : j = 0 ∨ j = 1 ∨ j = 2 ∨ j = 3 ∨ j = 4 := by omega
    rcases this with rfl | rfl | rfl | rfl | rfl <;> rfl
  · rintro I1 R1 ⟨A1, hh⟩
    unfold f_X5_readValue_130
    refine w2_pr (Al_r A1) (w2_bb (L_adv hX A1) ?_)
    rintro I2 R2 ⟨b2, e2, k2, A2, hb4⟩
    refine w2_some (Or.inr ⟨b2, e2, k2, _, _, A2, by omega, by omega, ?_, by omega⟩)
    rw [hh]; unfold hgn; rw [if_pos (by omega)]
theorem L_part (hX : POK X) (hP : P 5 0 0 4 = pxd X) (h1 : 1 ≤ M) (hr : EP X (fun I => rc P I (v + 1)) (fun R => rr R (v + 1)) M) (hd : ∀ I w, I 5 0 0 0 ≠ 0 → I 5 0 0 5 = 4 → rc P I w = some I) (hd' : ∀ R w, R 8 0 0 21 ≠ 0 → rr R w = some R) :
    EP X (fun I => f_X5_readPart rc P I v) (fun R => f_X8_readPart rr R v) M := by
  intro I R b e k D cd len A hl hM
  have hb := A_b A
  have hn := hX.2.1
  show W2 (f_X5_readPart rc P I v) (f_X8_readPart rr R v) _
  unfold f_X5_readPart f_X8_readPart
  rw [Al_kc A, Al_kr A]
  refine w2_pr (Al_r A) ?_
  by_cases k2 : k = 2
  · have kq : nI k = 2 := by rw [k2]; rfl
    refine w2_pl kq (w2_pr kq (w2_gdl (dlt (by rw [hP]; exact hX.1)) (w2_bb (L_take hX A (lo := 0) (hi := 9999) (by omega) (by omega) rfl rfl) ?_)))
    rw [hP]
    rintro a c (⟨w, b', e', k', q1, q2, q3, q4, q5, A', hb'⟩ | ⟨dd, q⟩)
    · have hb2 := hb.2.2.2.2.2 (by omega)
      have hb3 := A_b A'
      refine w2_bb (L_lay A' (by omega) (op := w) q4 (q5.trans (rs_9999 q2).symm) ⟨by omega, by omega, fun _ => by omega, fun q => by omega, fun q => by omega⟩) ?_
      rintro I1 R1 ⟨A1, hh⟩
      refine w2_some (Or.inr ⟨b', e', k', _, _, A1, by omega, by omega, ?_, by omega⟩)
      rw [hh]; unfold hgn; rw [if_pos (by omega)]
    · refine w2_l (Dd_add dd _) (fun I1 d1 => w2_rE _ (d_lay (Dd_r dd) _) (w2_some (Or.inl d1)))
  · have kq : ¬ nI k = 2 := by rw [n_2, nI_eq (by omega) (by omega)]; exact k2
    refine w2_nl kq (w2_nr kq ?_)
    by_cases k1 : k = 1
    · have kq : nI k = 1 := by rw [k1]; rfl
      refine w2_pl kq (w2_pr kq ?_)
      have hw : ∀ i, i < 5 → f_X8_is R (cS 49 + i) = some (bI (decide (k = 1) && wI (pxt X) b e (3 + i))) := fun i hi => (L_word hX A (z := 3 + i) (by omega)).2
      rw [r_which (fun i => decide (k = 1) && wI (pxt X) b e (3 + i)) (c := 49) (N := 5) rfl (by omega) hw, Option.bind_some]
      have w0 := (L_word hX A (z := 3) (by omega)).1
      have w1 := (L_word hX A (z := 4) (by omega)).1
      have w2 := (L_word hX A (z := 5) (by omega)).1
      have w3 := (L_word hX A (z := 6) (by omega)).1
      have w4 := (L_word hX A (z := 7) (by omega)).1
      have hk : k ≠ 0 := by omega
      unfold f_X5_readValue
      rw [decide_eq_true k1, Bool.true_and] at w0 w1 w2 w3 w4
      simp only [decide_eq_true k1, Bool.true_and, w0, w1, w2, w3, w4, Option.bind_some]
      have fin : ∀ {o : Option Mem} {u : Option Mem}, W2 o u (fun I' R' => EX X I' R' b D len (hg cd len)) → W2 (o.bind fun y => some y) u (fun I' R' => EX X I' R' b D len (hg cd len)) := by
        intro o u h
        cases o with
        | none => exact h
        | some o => exact h
      refine fin ?_
      cases e0 : wI (pxt X) b e 3
      · cases e1 : wI (pxt X) b e 4
        · cases e2 : wI (pxt X) b e 5
          · cases e3 : wI (pxt X) b e 6
            · cases e4 : wI (pxt X) b e 7
              · have ex : ff (fun i => wI (pxt X) b e (3 + i)) 0 5 = 5 := by simp [ff, e0, e1, e2, e3, e4]
                rw [ex]
                have r1 := L_ref A (v := 3) (by decide)
                refine w2_pl rfl (w2_pl rfl (w2_pl rfl (w2_pl rfl (w2_pl rfl (w2_pr rfl (w2_lE _ r1.1 (w2_rE _ r1.2.1 ?_)))))))
                unfold f_X5_readValue_130 f_X8_readPart_56
                exact w2_lE _ (d_adv (Dd_c r1.2.2)) (w2_rE _ (d_lay (Dd_r r1.2.2) _) (w2_nr (Dd_r r1.2.2) (w2_some (Or.inl r1.2.2))))
              · have ex : ff (fun i => wI (pxt X) b e (3 + i)) 0 5 = 4 := by simp [ff, e0, e1, e2, e3, e4]
                rw [ex]
                exact w2_pl rfl (w2_pl rfl (w2_pl rfl (w2_pl rfl (w2_nl bI_t (w2_nr (by decide) (L_val hX hP A hl (by omega) hk (j := 4) (by omega) rfl))))))
            · have ex : ff (fun i => wI (pxt X) b e (3 + i)) 0 5 = 3 := by simp [ff, e0, e1, e2, e3]
              rw [ex]
              exact w2_pl rfl (w2_pl rfl (w2_pl rfl (w2_nl bI_t (w2_nr (by decide) (L_val hX hP A hl (by omega) hk (j := 3) (by omega) rfl)))))
          · have ex : ff (fun i => wI (pxt X) b e (3 + i)) 0 5 = 2 := by simp [ff, e0, e1, e2]
            rw [ex]
            exact w2_pl rfl (w2_pl rfl (w2_nl bI_t (w2_nr (by decide) (L_val hX hP A hl (by omega) hk (j := 2) (by omega) rfl))))
        · have ex : ff (fun i => wI (pxt X) b e (3 + i)) 0 5 = 1 := by simp [ff, e0, e1]
          rw [ex]
          exact w2_pl rfl (w2_nl bI_t (w2_nr (by decide) (L_val hX hP A hl (by omega) hk (j := 1) (by omega) rfl)))
      · have ex : ff (fun i => wI (pxt X) b e (3 + i)) 0 5 = 0 := by simp [ff, e0]
        rw [ex]
        exact w2_nl bI_t (w2_nr (by decide) (L_val hX hP A hl (by omega) hk (j := 0) (by omega) rfl))
    · have kq : ¬ nI k = 1 := by rw [n_1, nI_eq (by omega) (by omega)]; exact k1
      refine w2_nl kq (w2_nr kq ?_)
      have s := L_sign hX A (c := 40) (by omega)
      have s1 : f_X5_isSign I 40 = some (bI (sI (pxt X) k b 40)) := s.1
      have s2 : f_X8_isMarked R 40 = some (bI (sI (pxt X) k b 40)) := s.2
      rw [s1, Option.bind_some]
      cases hs : sI (pxt X) k b 40
      · have r1 := L_ref A (v := 1) (by decide)
        have mk : f_X8_mark R 40 = some (rfR R 1) := by
          unfold f_X8_mark f_X8_mark_20
          rw [if_pos (Al_r A), s2, hs, Option.bind_some, if_pos (show bI false = 0 from rfl), r1.2.1, Option.bind_some, if_neg (Dd_r r1.2.2)]
        rw [if_pos (show bI false = 0 from rfl), r1.1, Option.bind_some, mk, Option.bind_some, hd' _ _ (Dd_r r1.2.2), Option.bind_some, d_mark (Dd_r r1.2.2), Option.bind_some]
        exact w2_some (Or.inl r1.2.2)
      · have hk := sI_k hs
        have hb2 := hb.2.2.2.2.2 (by omega)
        have mk : f_X8_mark R 40 = f_X8_stepOn R := by
          unfold f_X8_mark f_X8_mark_20
          rw [if_pos (Al_r A), s2, hs, Option.bind_some, if_neg bI_t, if_pos (Al_r A)]
          cases f_X8_stepOn R <;> rfl
        rw [if_neg bI_t, mk]
        refine w2_bb (L_adv hX A) ?_
        rintro I1 R1 ⟨b1, e1, k1', A1, hb1⟩
        refine w2_bb (hr I1 R1 b1 e1 k1' D cd len A1 (by omega) hM) ?_
        rintro I2 R2 (dd | ⟨b2, e2, k2', cd2, len2, A2, hb2', hl2, hh2, h02⟩)
        · rw [d_tsign (Dd_c dd) (Dd_4 dd), Option.bind_some, d_mark (Dd_r dd), Option.bind_some]
          exact w2_some (Or.inl dd)
        · refine w2_bb (L_tsign hX A2 (c := 41) (by omega) rfl) ?_
          rintro I3 R3 (⟨b3, e3, k3, A3, q1, q2⟩ | dd)
          · exact w2_some (Or.inr ⟨b3, e3, k3, cd2, len2, A3, by omega, by omega, hh2, h02⟩)
          · exact w2_some (Or.inl dd)
/-! prod -/
theorem L_prod7 (hX : POK X) (hP : P 5 0 0 4 = pxd X) (hM1 : 1 ≤ M) (hp : EP X (fun I => f_X5_readPart rc P I v) (fun R => f_X8_readPart rr R v) M) {b0 len0 h : Nat} {D : Dft} (hh : h + 1 + M ≤ 40) : ∀ m fu fu' i I R b e k cd len, Al X I R b e k D cd len → len ≤ b → pxn X - b ≤ m → m < fu → m < fu' → i ≤ b → b0 < b → len + b0 ≤ b + len0 → hg cd len = h + 1 → 0 < len →
    W2 (f_X5_readProduct_7 rc P fu I v (nI i)) (f_X8_readProduct_5 rr fu' R v) (fun I' R' => EX X I' R' b0 D len0 h) := by
  have hn := hX.2.1
  intro m
  induction m with
  | zero =>
    intro fu fu' i I R b e k cd len A hl hm hf hf' hi h1 h2 h3 h4
    obtain ⟨g, rfl⟩ := Nat.exists_eq_succ_of_ne_zero (by omega : fu ≠ 0)
    obtain ⟨g', rfl⟩ := Nat.exists_eq_succ_of_ne_zero (by omega : fu' ≠ 0)
    have hb := A_b A
    have k0 : k = 0 := hb.2.2.2.2.1.mpr (by omega)
    have s1 := L_sign hX A (c := 42) (by omega)
    have s2 := L_sign hX A (c := 47) (by omega)
    have z1 : sI (pxt X) k b 42 = false := by unfold sI; simp [k0]
    have z2 : sI (pxt X) k b 47 = false := by unfold sI; simp [k0]
    rw [z1] at s1; rw [z2] at s2
    unfold f_X5_readProduct_7 f_X8_readProduct_5
    refine w2_rE _ s1.2 (w2_pr rfl (w2_rE _ s2.2 (w2_pr rfl (w2_itel (fun _ => ?_) (fun _ => w2_lE _ s1.1 (w2_pl rfl (w2_lE _ s2.1 (w2_pl rfl ?_))))))))
    · exact w2_some (Or.inr ⟨b, e, k, cd, len, A, h1, h2, h3, h4⟩)
    · exact w2_some (Or.inr ⟨b, e, k, cd, len, A, h1, h2, h3, h4⟩)
  | succ m ih =>
    intro fu fu' i I R b e k cd len A hl hm hf hf' hi h1 h2 h3 h4
    obtain ⟨g, rfl⟩ := Nat.exists_eq_succ_of_ne_zero (by omega : fu ≠ 0)
    obtain ⟨g', rfl⟩ := Nat.exists_eq_succ_of_ne_zero (by omega : fu' ≠ 0)
    obtain ⟨gg, hgg⟩ := Nat.exists_eq_succ_of_ne_zero (by omega : g ≠ 0)
    obtain ⟨gg', hgg'⟩ := Nat.exists_eq_succ_of_ne_zero (by omega : g' ≠ 0)
    have hb := A_b A
    have s1 := L_sign hX A (c := 42) (by omega)
    have s2 := L_sign hX A (c := 47) (by omega)
    have go : k = 3 → ∀ op u w, u = nI op → w = rs op → 10004 < op → op ≠ 10007 → op ≤ 10013 → W2 (f_X5_readProduct_50 rc (f_X5_readProduct_7 rc P g) P I v (nI i) u) (f_X8_readProduct_39 rr (f_X8_readProduct_5 rr g') R v w) (fun I' R' => EX X I' R' b0 D len0 h) := by
      intro k3 op u w hu hw o1 o2 o3
      have hb2 := hb.2.2.2.2.2 (by omega)
      unfold f_X5_readProduct_50 f_X8_readProduct_39
      rw [hP]
      refine w2_bb (L_adv hX A) ?_
      rintro I1 R1 ⟨b1, e1, k1, A1, hb1⟩
      refine w2_bb (hp I1 R1 b1 e1 k1 D cd len A1 (by omega) (by omega)) ?_
      rintro I2 R2 (dd | ⟨b2, e2, k2, cd2, len2, A2, hb3, hl2, hh2, h02⟩)
      · refine w2_gdl (dlt hX.1) (w2_l (Dd_add dd _) (fun I3 d3 => w2_rE _ (d_lay (Dd_r dd) _) ?_))
        rw [hgg, hgg', d_prod7 (Dd_4 d3), e_prod5 (Dd_r dd)]
        exact w2_some (Or.inl d3)
      · have hb4 := A_b A2
        refine w2_gdl (dlt hX.1) (w2_bb (L_lay A2 (by omega) (op := op) hu hw ⟨o3, by omega, fun _ => by omega, fun q => absurd q o2, fun _ _ => by omega⟩) ?_)
        rintro I3 R3 ⟨A3, hh3⟩
        rw [nI_1]
        refine ih g g' (i + 1) I3 R3 b2 e2 k2 _ _ A3 (by omega) (by omega) (by omega) (by omega) (by omega) (by omega) (by omega) ?_ (by omega)
        rw [hh3, hh2, h3]; unfold hgn; rw [if_neg (by omega), if_neg o2]; omega
    unfold f_X5_readProduct_7 f_X8_readProduct_5
    cases z1 : sI (pxt X) k b 42
    · cases z2 : sI (pxt X) k b 47
      · rw [z1] at s1; rw [z2] at s2
        refine w2_rE _ s1.2 (w2_pr rfl (w2_rE _ s2.2 (w2_pr rfl (w2_itel (fun _ => ?_) (fun _ => w2_lE _ s1.1 (w2_pl rfl (w2_lE _ s2.1 (w2_pl rfl ?_))))))))
        · exact w2_some (Or.inr ⟨b, e, k, cd, len, A, h1, h2, h3, h4⟩)
        · exact w2_some (Or.inr ⟨b, e, k, cd, len, A, h1, h2, h3, h4⟩)
      · have k3 := sI_k z2
        have := hb.2.2.2.2.2 (by omega)
        rw [z1] at s1; rw [z2] at s2
        unfold f_X5_readProduct_32 f_X8_readProduct_23
        refine w2_nl (nI_ge (b := 600) (by omega) (by omega)) (w2_lE _ s1.1 (w2_pl rfl (w2_lE _ s2.1 (w2_nl bI_t (w2_lE _ s1.1 (w2_pl rfl ?_))))))
        refine w2_rE _ s1.2 (w2_pr rfl (w2_rE _ s2.2 (w2_nr bI_t (w2_rE _ s1.2 (w2_pr rfl ?_)))))
        exact go k3 10013 _ _ rfl rfl (by omega) (by omega) (by omega)
    · have k3 := sI_k z1
      have := hb.2.2.2.2.2 (by omega)
      rw [z1] at s1
      unfold f_X5_readProduct_32 f_X8_readProduct_23
      refine w2_nl (nI_ge (b := 600) (by omega) (by omega)) (w2_lE _ s1.1 (w2_nl bI_t (w2_lE _ s1.1 (w2_nl bI_t ?_))))
      refine w2_rE _ s1.2 (w2_nr bI_t (w2_rE _ s1.2 (w2_nr bI_t ?_)))
      exact go k3 10012 _ _ rfl rfl (by omega) (by omega) (by omega)
theorem L_prod (hX : POK X) (hP : P 5 0 0 4 = pxd X) (hM1 : 1 ≤ M) (hp : EP X (fun I => f_X5_readPart rc P I v) (fun R => f_X8_readPart rr R v) M) :
    EP X (fun I => f_X5_readProduct rc P I v) (fun R => f_X8_readProduct rr R v) (M + 1) := by
  intro I R b e k D cd len A hl hM
  have hn := hX.2.1
  have hb := A_b A
  show W2 (f_X5_readProduct rc P I v) (f_X8_readProduct rr R v) _
  unfold f_X5_readProduct f_X8_readProduct
  refine w2_bb (hp I R b e k D cd len A hl (by omega)) ?_
  rintro I1 R1 (dd | ⟨b2, e2, k2, cd2, len2, A2, hb3, hl2, hh2, h02⟩)
  · rw [show FU = 1999 + 1 from rfl, d_prod7 (Dd_4 dd), e_prod5 (Dd_r dd)]
    exact w2_some (Or.inl dd)
  · have hb4 := A_b A2
    exact L_prod7 hX hP hM1 hp (by omega) 600 FU FU 0 I1 R1 b2 e2 k2 cd2 len2 A2 (by omega) (by omega) (by unfold FU; omega) (by unfold FU; omega) (by omega) hb3 hl2 hh2 h02
/-! sum -/
theorem L_sum7 (hX : POK X) (hP : P 5 0 0 4 = pxd X) (hM1 : 1 ≤ M) (hp : EP X (fun I => f_X5_readProduct rc P I v) (fun R => f_X8_readProduct rr R v) M) {b0 len0 h : Nat} {D : Dft} (hh : h + 1 + M ≤ 40) : ∀ m fu fu' i I R b e k cd len, Al X I R b e k D cd len → len ≤ b → pxn X - b ≤ m → m < fu → m < fu' → i ≤ b → b0 < b → len + b0 ≤ b + len0 → hg cd len = h + 1 → 0 < len →
    W2 (f_X5_readSum_7 rc P fu I v (nI i)) (f_X8_readSum_5 rr fu' R v) (fun I' R' => EX X I' R' b0 D len0 h) := by
  have hn := hX.2.1
  intro m
  induction m with
  | zero =>
    intro fu fu' i I R b e k cd len A hl hm hf hf' hi h1 h2 h3 h4
    obtain ⟨g, rfl⟩ := Nat.exists_eq_succ_of_ne_zero (by omega : fu ≠ 0)
    obtain ⟨g', rfl⟩ := Nat.exists_eq_succ_of_ne_zero (by omega : fu' ≠ 0)
    have hb := A_b A
    have k0 : k = 0 := hb.2.2.2.2.1.mpr (by omega)
    have s1 := L_sign hX A (c := 43) (by omega)
    have s2 := L_sign hX A (c := 45) (by omega)
    have z1 : sI (pxt X) k b 43 = false := by unfold sI; simp [k0]
    have z2 : sI (pxt X) k b 45 = false := by unfold sI; simp [k0]
    rw [z1] at s1; rw [z2] at s2
    unfold f_X5_readSum_7 f_X8_readSum_5
    refine w2_rE _ s1.2 (w2_pr rfl (w2_rE _ s2.2 (w2_pr rfl (w2_itel (fun _ => ?_) (fun _ => w2_lE _ s1.1 (w2_pl rfl (w2_lE _ s2.1 (w2_pl rfl ?_))))))))
    · exact w2_some (Or.inr ⟨b, e, k, cd, len, A, h1, h2, h3, h4⟩)
    · exact w2_some (Or.inr ⟨b, e, k, cd, len, A, h1, h2, h3, h4⟩)
  | succ m ih =>
    intro fu fu' i I R b e k cd len A hl hm hf hf' hi h1 h2 h3 h4
    obtain ⟨g, rfl⟩ := Nat.exists_eq_succ_of_ne_zero (by omega : fu ≠ 0)
    obtain ⟨g', rfl⟩ := Nat.exists_eq_succ_of_ne_zero (by omega : fu' ≠ 0)
    obtain ⟨gg, hgg⟩ := Nat.exists_eq_succ_of_ne_zero (by omega : g ≠ 0)
    obtain ⟨gg', hgg'⟩ := Nat.exists_eq_succ_of_ne_zero (by omega : g' ≠ 0)
    have hb := A_b A
    have s1 := L_sign hX A (c := 43) (by omega)
    have s2 := L_sign hX A (c := 45) (by omega)
    have go : k = 3 → ∀ op u w, u = nI op → w = rs op → 10004 < op → op ≠ 10007 → op ≤ 10013 → W2 (f_X5_readSum_50 rc (f_X5_readSum_7 rc P g) P I v (nI i) u) (f_X8_readSum_39 rr (f_X8_readSum_5 rr g') R v w) (fun I' R' => EX X I' R' b0 D len0 h) := by
      intro k3 op u w hu hw o1 o2 o3
      have hb2 := hb.2.2.2.2.2 (by omega)
      unfold f_X5_readSum_50 f_X8_readSum_39
      rw [hP]
      refine w2_bb (L_adv hX A) ?_
      rintro I1 R1 ⟨b1, e1, k1, A1, hb1⟩
      refine w2_bb (hp I1 R1 b1 e1 k1 D cd len A1 (by omega) (by omega)) ?_
      rintro I2 R2 (dd | ⟨b2, e2, k2, cd2, len2, A2, hb3, hl2, hh2, h02⟩)
      · refine w2_gdl (dlt hX.1) (w2_l (Dd_add dd _) (fun I3 d3 => w2_rE _ (d_lay (Dd_r dd) _) ?_))
        rw [hgg, hgg', d_sum7 (Dd_4 d3), e_sum5 (Dd_r dd)]
        exact w2_some (Or.inl d3)
      · have hb4 := A_b A2
        refine w2_gdl (dlt hX.1) (w2_bb (L_lay A2 (by omega) (op := op) hu hw ⟨o3, by omega, fun _ => by omega, fun q => absurd q o2, fun _ _ => by omega⟩) ?_)
        rintro I3 R3 ⟨A3, hh3⟩
        rw [nI_1]
        refine ih g g' (i + 1) I3 R3 b2 e2 k2 _ _ A3 (by omega) (by omega) (by omega) (by omega) (by omega) (by omega) (by omega) ?_ (by omega)
        rw [hh3, hh2, h3]; unfold hgn; rw [if_neg (by omega), if_neg o2]; omega
    unfold f_X5_readSum_7 f_X8_readSum_5
    cases z1 : sI (pxt X) k b 43
    · cases z2 : sI (pxt X) k b 45
      · rw [z1] at s1; rw [z2] at s2
        refine w2_rE _ s1.2 (w2_pr rfl (w2_rE _ s2.2 (w2_pr rfl (w2_itel (fun _ => ?_) (fun _ => w2_lE _ s1.1 (w2_pl rfl (w2_lE _ s2.1 (w2_pl rfl ?_))))))))
        · exact w2_some (Or.inr ⟨b, e, k, cd, len, A, h1, h2, h3, h4⟩)
        · exact w2_some (Or.inr ⟨b, e, k, cd, len, A, h1, h2, h3, h4⟩)
      · have k3 := sI_k z2
        have := hb.2.2.2.2.2 (by omega)
        rw [z1] at s1; rw [z2] at s2
        unfold f_X5_readSum_32 f_X8_readSum_23
        refine w2_nl (nI_ge (b := 600) (by omega) (by omega)) (w2_lE _ s1.1 (w2_pl rfl (w2_lE _ s2.1 (w2_nl bI_t (w2_lE _ s1.1 (w2_pl rfl ?_))))))
        refine w2_rE _ s1.2 (w2_pr rfl (w2_rE _ s2.2 (w2_nr bI_t (w2_rE _ s1.2 (w2_pr rfl ?_)))))
        exact go k3 10011 _ _ rfl rfl (by omega) (by omega) (by omega)
    · have k3 := sI_k z1
      have := hb.2.2.2.2.2 (by omega)
      rw [z1] at s1
      unfold f_X5_readSum_32 f_X8_readSum_23
      refine w2_nl (nI_ge (b := 600) (by omega) (by omega)) (w2_lE _ s1.1 (w2_nl bI_t (w2_lE _ s1.1 (w2_nl bI_t ?_))))
      refine w2_rE _ s1.2 (w2_nr bI_t (w2_rE _ s1.2 (w2_nr bI_t ?_)))
      exact go k3 10010 _ _ rfl rfl (by omega) (by omega) (by omega)
theorem L_sum (hX : POK X) (hP : P 5 0 0 4 = pxd X) (hM1 : 1 ≤ M) (hp : EP X (fun I => f_X5_readProduct rc P I v) (fun R => f_X8_readProduct rr R v) M) :
    EP X (fun I => f_X5_readSum rc P I v) (fun R => f_X8_readSum rr R v) (M + 1) := by
  intro I R b e k D cd len A hl hM
  have hn := hX.2.1
  have hb := A_b A
  show W2 (f_X5_readSum rc P I v) (f_X8_readSum rr R v) _
  unfold f_X5_readSum f_X8_readSum
  refine w2_bb (hp I R b e k D cd len A hl (by omega)) ?_
  rintro I1 R1 (dd | ⟨b2, e2, k2, cd2, len2, A2, hb3, hl2, hh2, h02⟩)
  · rw [show FU = 1999 + 1 from rfl, d_sum7 (Dd_4 dd), e_sum5 (Dd_r dd)]
    exact w2_some (Or.inl dd)
  · have hb4 := A_b A2
    exact L_sum7 hX hP hM1 hp (by omega) 600 FU FU 0 I1 R1 b2 e2 k2 cd2 len2 A2 (by omega) (by omega) (by unfold FU; omega) (by unfold FU; omega) (by omega) hb3 hl2 hh2 h02
end
