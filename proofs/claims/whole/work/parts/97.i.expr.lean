/-! tests, nots, ands, ors, whole expressions in both -/
section
variable {X : PX} {P : PMem} {rc : PMem → Mem → Int32 → Option Mem} {rr : Mem → Int32 → Option Mem} {v : Int32} {M : Nat}
/-- behind a fault: nots are laid in the class alone -/
theorem D_not45 (hX : POK X) (hP : P 5 0 0 4 = pxd X) {R : Mem} : ∀ m fu i N I, i + m = N → N < 100 → m < fu → Dd X I R → wp (f_X5_readNot_45 rc P fu I (nI N) (nI i)) (fun I' => Dd X I' R) := by
  intro m
  induction m with
  | zero =>
    intro fu i N I hi hN hf dd
    obtain ⟨g, rfl⟩ := Nat.exists_eq_succ_of_ne_zero (by omega : fu ≠ 0)
    unfold f_X5_readNot_45
    exact wp_pos (nI_le (by omega) (by omega)) (wp_some dd)
  | succ m ih =>
    intro fu i N I hi hN hf dd
    obtain ⟨g, rfl⟩ := Nat.exists_eq_succ_of_ne_zero (by omega : fu ≠ 0)
    unfold f_X5_readNot_45
    rw [hP]
    refine wp_neg (nI_ge (by omega) (by omega)) (wp_gd (dlt hX.1) (wp_bind (Dd_add dd _) (fun I1 d1 => ?_)))
    rw [nI_1]
    exact ih g (i + 1) N I1 (by omega) hN (by omega) d1
theorem L_not45 (hX : POK X) (hP : P 5 0 0 4 = pxd X) {b0 len0 h : Nat} {D : Dft} {b e k : Nat} (h40 : h + 1 ≤ 40) (hb0 : b0 < b) : ∀ m fu fu' i N I R cd len, Al X I R b e k D cd len → i + m = N → N < 100 → m < fu → m < fu' → len + m + b0 ≤ b + len0 → len + m ≤ b → hg cd len = h + 1 → 0 < len →
    W2 (f_X5_readNot_45 rc P fu I (nI N) (nI i)) (f_X8_readNot_95 rr fu' R (nI N) (nI i)) (fun I' R' => EX X I' R' b0 D len0 h) := by
  have hn := hX.2.1
  intro m
  induction m with
  | zero =>
    intro fu fu' i N I R cd len A hi hN hf hf' h1 h2 h3 h4
    obtain ⟨g, rfl⟩ := Nat.exists_eq_succ_of_ne_zero (by omega : fu ≠ 0)
    obtain ⟨g', rfl⟩ := Nat.exists_eq_succ_of_ne_zero (by omega : fu' ≠ 0)
    unfold f_X5_readNot_45 f_X8_readNot_95
    exact w2_pl (nI_le (by omega) (by omega)) (w2_pr (nI_le (by omega) (by omega)) (w2_some (Or.inr ⟨b, e, k, cd, len, A, hb0, by omega, h3, h4⟩)))
  | succ m ih =>
    intro fu fu' i N I R cd len A hi hN hf hf' h1 h2 h3 h4
    obtain ⟨g, rfl⟩ := Nat.exists_eq_succ_of_ne_zero (by omega : fu ≠ 0)
    obtain ⟨g', rfl⟩ := Nat.exists_eq_succ_of_ne_zero (by omega : fu' ≠ 0)
    have hb := A_b A
    unfold f_X5_readNot_45 f_X8_readNot_95
    rw [hP]
    refine w2_nl (nI_ge (by omega) (by omega)) (w2_nr (nI_ge (by omega) (by omega)) (w2_gdl (dlt hX.1) (w2_bb (L_lay A (by omega) (op := 10007) rfl rfl ⟨by omega, by omega, fun q => by omega, fun _ => by omega, fun _ q => absurd rfl q⟩) ?_)))
    rintro I1 R1 ⟨A1, hh⟩
    rw [nI_1]
    refine ih g g' (i + 1) N I1 R1 _ _ A1 (by omega) hN (by omega) (by omega) (by omega) (by omega) ?_ (by omega)
    rw [hh, h3]; rfl
/-- the reference's test, with the nots that go ahead of it -/
def rTail (rr : Mem → Int32 → Option Mem) (R : Mem) (v w : Int32) : Option Mem :=
  (f_X8_readSum rr R v).bind fun y2 =>
    (f_X8_isMarked y2 (60 : Int32)).bind fun y3 =>
    if y3 = 0 then ((f_X8_isMarked y2 (61 : Int32)).bind fun y4 =>
    if y4 = 0 then (f_X8_readNot_93 rr y2 w) else (f_X8_readNot_62 rr y2 v w)) else (f_X8_readNot_62 rr y2 v w)
theorem L_not38 (hX : POK X) (hP : P 5 0 0 4 = pxd X) (hM1 : 1 ≤ M) (hp : EP X (fun I => f_X5_readSum rc P I v) (fun R => f_X8_readSum rr R v) M) {I R : Mem} {b0 len0 b e k : Nat} {D : Dft} {cd : Nat → Nat} {len N : Nat} (A : Al X I R b e k D cd len) (hN : N < 100) (hl : len + N ≤ b) (hl0 : len + N + b0 ≤ b + len0) (hb0 : b0 ≤ b) (hM : hg cd len + 1 + M ≤ 40) :
    W2 (f_X5_readNot_38 rc P I v (nI N)) (rTail rr R v (nI N)) (fun I' R' => EX X I' R' b0 D len0 (hg cd len)) := by
  have hn := hX.2.1
  have dead : ∀ I1 R1, Dd X I1 R1 → W2 (f_X5_readNot_45 rc P FU I1 (nI N) 0) (f_X8_readNot_93 rr R1 (nI N)) (fun I' R' => EX X I' R' b0 D len0 (hg cd len)) := by
    intro I1 R1 dd
    unfold f_X8_readNot_93
    rw [n_0, e_not95 (Dd_r dd) N FU 0 N (by omega) hN (by unfold FU; omega)]
    refine w2_sp (D_not45 hX hP N FU 0 N I1 (by omega) hN (by unfold FU; omega) dd) (wp_some rfl) ?_
    rintro I2 R2 d2 rfl
    exact Or.inl d2
  unfold f_X5_readNot_38 rTail f_X5_readTest
  have as : ∀ {o : Option Mem} {f g : Mem → Option Mem}, (o.bind f).bind g = o.bind (fun y => (f y).bind g) := by
    intro o f g; cases o <;> rfl
  rw [as]
  refine w2_bb (hp I R b e k D cd len A (by omega) (by omega)) ?_
  rintro I1 R1 (dd | ⟨b1, e1, k1, cd1, len1, A1, hb1, hl1, hh1, h01⟩)
  · rw [d_sign (Dd_4 dd), Option.bind_some, if_pos rfl, d_sign (Dd_4 dd), Option.bind_some, if_pos rfl]
    refine w2_rE _ (d_marked (Dd_r dd) _) (w2_pr rfl (w2_rE _ (d_marked (Dd_r dd) _) (w2_pr rfl ?_)))
    unfold f_X5_readTest_36
    rw [if_pos rfl, Option.bind_some]
    exact dead I1 R1 dd
  · have hb := A_b A1
    have s1 := L_sign hX A1 (c := 60) (by omega)
    have s2 := L_sign hX A1 (c := 61) (by omega)
    have s1' : f_X5_isSign I1 60 = some (bI (sI (pxt X) k1 b1 60)) := s1.1
    have s2' : f_X5_isSign I1 61 = some (bI (sI (pxt X) k1 b1 61)) := s2.1
    have go : k1 = 3 → ∀ op u w, u = nI op → w = rs op → ¬ u = -1 → 10004 < op → op ≠ 10007 → op ≤ 10013 → W2 ((f_X5_readTest_36 rc P I1 v u).bind fun y => f_X5_readNot_45 rc P FU y (nI N) 0) (f_X8_readNot_78 rr R1 v (nI N) w) (fun I' R' => EX X I' R' b0 D len0 (hg cd len)) := by
      intro k3 op u w hu hw hu1 o1 o2 o3
      have hb2 := hb.2.2.2.2.2 (by omega)
      unfold f_X5_readTest_36 f_X8_readNot_78
      rw [if_neg hu1, as, hP]
      refine w2_bb (L_adv hX A1) ?_
      rintro I2 R2 ⟨b2, e2, k2, A2, hb3⟩
      rw [as]
      refine w2_bb (hp I2 R2 b2 e2 k2 D cd1 len1 A2 (by omega) (by omega)) ?_
      rintro I3 R3 (dd | ⟨b3, e3, k3', cd3, len3, A3, hb4, hl3, hh3, h03⟩)
      · rw [gd_t (dlt hX.1), as]
        exact w2_l (Dd_add dd _) (fun I4 d4 => w2_rE _ (d_lay (Dd_r dd) _) (dead I4 R3 d4))
      · rw [gd_t (dlt hX.1), as]
        have hb5 := A_b A3
        refine w2_bb (L_lay A3 (by omega) (op := op) hu hw ⟨o3, by omega, fun _ => by omega, fun q => absurd q o2, fun _ _ => by omega⟩) ?_
        rintro I4 R4 ⟨A4, hh4⟩
        rw [Option.bind_some]
        unfold f_X8_readNot_93
        rw [n_0]
        refine L_not45 hX hP (by omega) (by omega) N FU FU 0 N I4 R4 _ _ A4 (by omega) hN (by unfold FU; omega) (by unfold FU; omega) (by omega) (by omega) ?_ (by omega)
        rw [hh4, hh3, hh1]; unfold hgn; rw [if_neg (by omega), if_neg o2]; omega
    unfold f_X8_readNot_62
    rw [s1', s2', Option.bind_some]
    cases z1 : sI (pxt X) k1 b1 60
    · rw [z1] at s1
      refine w2_rE _ s1.2 (w2_pr rfl ?_)
      rw [if_pos (show bI false = 0 from rfl), Option.bind_some]
      cases z2 : sI (pxt X) k1 b1 61
      · rw [z2] at s2
        refine w2_rE _ s2.2 (w2_pr rfl ?_)
        rw [if_pos (show bI false = 0 from rfl)]
        unfold f_X5_readTest_36 f_X8_readNot_93
        rw [if_pos rfl, Option.bind_some, n_0]
        exact L_not45 hX hP (by omega) (by omega) N FU FU 0 N I1 R1 cd1 len1 A1 (by omega) hN (by unfold FU; omega) (by unfold FU; omega) (by omega) (by omega) hh1 h01
      · rw [z2] at s2
        refine w2_rE _ s2.2 (w2_nr bI_t (w2_rE _ s1.2 (w2_pr rfl ?_)))
        rw [if_neg bI_t]
        exact go (sI_k z2) 10009 _ _ rfl rfl (by decide) (by omega) (by omega) (by omega)
    · rw [z1] at s1
      refine w2_rE _ s1.2 (w2_nr bI_t (w2_rE _ s1.2 (w2_nr bI_t ?_)))
      rw [if_neg bI_t]
      exact go (sI_k z1) 10008 _ _ rfl rfl (by decide) (by omega) (by omega) (by omega)
theorem L_not2 (hX : POK X) (hP : P 5 0 0 4 = pxd X) (hM1 : 1 ≤ M) (hp : EP X (fun I => f_X5_readSum rc P I v) (fun R => f_X8_readSum rr R v) M) {b0 : Nat} {D : Dft} {cd : Nat → Nat} {len : Nat} (hM : hg cd len + 1 + M ≤ 40) : ∀ m fu fu' N I R b e k, Al X I R b e k D cd len → N + m = 6 → m + 1 < fu → m + 1 < fu' → len ≤ b0 → b0 + N ≤ b →
    W2 (f_X5_readNot_2 rc P fu I v (nI N)) (f_X8_readNot_2 rr fu' R v (nI N)) (fun I' R' => EX X I' R' b0 D len (hg cd len)) := by
  have hn := hX.2.1
  intro m
  induction m with
  | zero =>
    intro fu fu' N I R b e k A hN hf hf' hl hb0
    obtain ⟨g, rfl⟩ := Nat.exists_eq_succ_of_ne_zero (by omega : fu ≠ 0)
    obtain ⟨g', rfl⟩ := Nat.exists_eq_succ_of_ne_zero (by omega : fu' ≠ 0)
    obtain ⟨gg, hgg⟩ := Nat.exists_eq_succ_of_ne_zero (by omega : g ≠ 0)
    obtain ⟨gg', hgg'⟩ := Nat.exists_eq_succ_of_ne_zero (by omega : g' ≠ 0)
    have w := L_word hX A (z := 20) (by omega)
    have tl := L_not38 hX hP hM1 hp (b0 := b0) (len0 := len) (N := N) A (by omega) (by omega) (by omega) (by omega) hM
    unfold f_X5_readNot_2 f_X8_readNot_2
    refine w2_nl (nI_nlt (a := 6) (b := N) (by omega) (by omega)) ?_
    cases hw : (decide (k = 1) && wI (pxt X) b e 20)
    · rw [hw] at w
      exact w2_lE _ w.1 (w2_pl rfl (w2_rE _ w.2 (w2_pr rfl tl)))
    · rw [hw] at w
      have r1 := L_ref A (v := 2) (by decide)
      have n6 : nI N = 6 := by rw [show N = 6 by omega]; rfl
      refine w2_lE _ w.1 (w2_nl bI_t (w2_rE _ w.2 (w2_nr bI_t (w2_pl n6 (w2_pr n6 (w2_lE _ r1.1 (w2_rE _ r1.2.1 ?_)))))))
      unfold f_X5_readNot_28 f_X8_readNot_22
      rw [d_adv (Dd_c r1.2.2), Option.bind_some, if_neg (Dd_r r1.2.2), nI_1, hgg, hgg', e_not2 (Dd_r r1.2.2) _ _ (by omega)]
      unfold f_X5_readNot_2
      refine w2_pl (nI_lt (a := 6) (b := N + 1) (by omega) (by omega)) ?_
      unfold f_X5_readNot_38
      rw [d_test (Dd_c r1.2.2) (Dd_4 r1.2.2), Option.bind_some, n_0]
      refine w2_sp (D_not45 hX hP (N + 1) FU 0 (N + 1) _ (by omega) (by omega) (by unfold FU; omega) r1.2.2) (wp_some rfl) ?_
      rintro I2 R2 d2 rfl
      exact Or.inl d2
  | succ m ih =>
    intro fu fu' N I R b e k A hN hf hf' hl hb0
    obtain ⟨g, rfl⟩ := Nat.exists_eq_succ_of_ne_zero (by omega : fu ≠ 0)
    obtain ⟨g', rfl⟩ := Nat.exists_eq_succ_of_ne_zero (by omega : fu' ≠ 0)
    have hb := A_b A
    have w := L_word hX A (z := 20) (by omega)
    have tl := L_not38 hX hP hM1 hp (b0 := b0) (len0 := len) (N := N) A (by omega) (by omega) (by omega) (by omega) hM
    unfold f_X5_readNot_2 f_X8_readNot_2
    refine w2_nl (nI_nlt (a := 6) (b := N) (by omega) (by omega)) ?_
    cases hw : (decide (k = 1) && wI (pxt X) b e 20)
    · rw [hw] at w
      exact w2_lE _ w.1 (w2_pl rfl (w2_rE _ w.2 (w2_pr rfl tl)))
    · have k1 : k = 1 := by simp only [Bool.and_eq_true, decide_eq_true_eq] at hw; exact hw.1
      have hb2 := hb.2.2.2.2.2 (by omega)
      rw [hw] at w
      have n6 : ¬ nI N = 6 := by rw [show (6 : Int32) = nI 6 from rfl, nI_eq (by omega) (by omega)]; omega
      refine w2_lE _ w.1 (w2_nl bI_t (w2_rE _ w.2 (w2_nr bI_t (w2_nl n6 (w2_nr n6 ?_)))))
      unfold f_X5_readNot_28 f_X8_readNot_22
      refine w2_pr (Al_r A) (w2_bb (L_adv hX A) ?_)
      rintro I1 R1 ⟨b1, e1, k1', A1, hb1⟩
      rw [nI_1]
      exact ih g g' (N + 1) I1 R1 b1 e1 k1' A1 (by omega) (by omega) (by omega) hl (by omega)
theorem L_not (hX : POK X) (hP : P 5 0 0 4 = pxd X) (hM1 : 1 ≤ M) (hp : EP X (fun I => f_X5_readSum rc P I v) (fun R => f_X8_readSum rr R v) M) :
    EP X (fun I => f_X5_readNot rc P I v) (fun R => f_X8_readNot rr R v) (M + 1) := by
  intro I R b e k D cd len A hl hM
  exact L_not2 hX hP hM1 hp (by omega) 6 FU FU 0 I R b e k A (by omega) (by unfold FU; omega) (by unfold FU; omega) hl (by omega)
/-! and -/
theorem L_and7 (hX : POK X) (hP : P 5 0 0 4 = pxd X) (hM1 : 1 ≤ M) (hp : EP X (fun I => f_X5_readNot rc P I v) (fun R => f_X8_readNot rr R v) M) {b0 len0 h : Nat} {D : Dft} (hh : h + 1 + M ≤ 40) : ∀ m fu fu' i I R b e k cd len, Al X I R b e k D cd len → len ≤ b → pxn X - b ≤ m → m < fu → m < fu' → i ≤ b → b0 < b → len + b0 ≤ b + len0 → hg cd len = h + 1 → 0 < len →
    W2 (f_X5_readAnd_7 rc P fu I v (nI i)) (f_X8_readAnd_5 rr fu' R v) (fun I' R' => EX X I' R' b0 D len0 h) := by
  have hn := hX.2.1
  intro m
  induction m with
  | zero =>
    intro fu fu' i I R b e k cd len A hl hm hf hf' hi h1 h2 h3 h4
    obtain ⟨g, rfl⟩ := Nat.exists_eq_succ_of_ne_zero (by omega : fu ≠ 0)
    obtain ⟨g', rfl⟩ := Nat.exists_eq_succ_of_ne_zero (by omega : fu' ≠ 0)
    have hb := A_b A
    have k0 : k = 0 := hb.2.2.2.2.1.mpr (by omega)
    have s1 := L_word hX A (z := 8) (by omega)
    have z1 : (decide (k = 1) && wI (pxt X) b e 8) = false := by simp [k0]
    rw [z1] at s1
    unfold f_X5_readAnd_7 f_X8_readAnd_5
    refine w2_rE _ s1.2 (w2_pr rfl (w2_itel (fun _ => ?_) (fun _ => w2_lE _ s1.1 (w2_pl rfl ?_))))
    · exact w2_some (Or.inr ⟨b, e, k, cd, len, A, h1, h2, h3, h4⟩)
    · exact w2_some (Or.inr ⟨b, e, k, cd, len, A, h1, h2, h3, h4⟩)
  | succ m ih =>
    intro fu fu' i I R b e k cd len A hl hm hf hf' hi h1 h2 h3 h4
    obtain ⟨g, rfl⟩ := Nat.exists_eq_succ_of_ne_zero (by omega : fu ≠ 0)
    obtain ⟨g', rfl⟩ := Nat.exists_eq_succ_of_ne_zero (by omega : fu' ≠ 0)
    obtain ⟨gg, hgg⟩ := Nat.exists_eq_succ_of_ne_zero (by omega : g ≠ 0)
    obtain ⟨gg', hgg'⟩ := Nat.exists_eq_succ_of_ne_zero (by omega : g' ≠ 0)
    have hb := A_b A
    have s1 := L_word hX A (z := 8) (by omega)
    unfold f_X5_readAnd_7 f_X8_readAnd_5
    cases z1 : (decide (k = 1) && wI (pxt X) b e 8)
    · rw [z1] at s1
      refine w2_rE _ s1.2 (w2_pr rfl (w2_itel (fun _ => ?_) (fun _ => w2_lE _ s1.1 (w2_pl rfl ?_))))
      · exact w2_some (Or.inr ⟨b, e, k, cd, len, A, h1, h2, h3, h4⟩)
      · exact w2_some (Or.inr ⟨b, e, k, cd, len, A, h1, h2, h3, h4⟩)
    · have k1 : k = 1 := by simp only [Bool.and_eq_true, decide_eq_true_eq] at z1; exact z1.1
      have hb2 := hb.2.2.2.2.2 (by omega)
      rw [z1] at s1
      refine w2_nl (nI_ge (b := 600) (by omega) (by omega)) (w2_lE _ s1.1 (w2_nl bI_t (w2_rE _ s1.2 (w2_nr bI_t ?_))))
      rw [hP]
      refine w2_bb (L_adv hX A) ?_
      rintro I1 R1 ⟨b1, e1, k1', A1, hb1⟩
      refine w2_bb (hp I1 R1 b1 e1 k1' D cd len A1 (by omega) (by omega)) ?_
      rintro I2 R2 (dd | ⟨b2, e2, k2, cd2, len2, A2, hb3, hl2, hh2, h02⟩)
      · refine w2_gdl (dlt hX.1) (w2_l (Dd_add dd _) (fun I3 d3 => w2_rE _ (d_lay (Dd_r dd) _) ?_))
        rw [hgg, hgg', d_and7 (Dd_4 d3), e_and5 (Dd_r dd)]
        exact w2_some (Or.inl d3)
      · have hb4 := A_b A2
        refine w2_gdl (dlt hX.1) (w2_bb (L_lay A2 (by omega) (op := 10006) rfl rfl ⟨by omega, by omega, fun _ => by omega, fun q => by omega, fun _ _ => by omega⟩) ?_)
        rintro I3 R3 ⟨A3, hh3⟩
        rw [nI_1]
        refine ih g g' (i + 1) I3 R3 b2 e2 k2 _ _ A3 (by omega) (by omega) (by omega) (by omega) (by omega) (by omega) (by omega) ?_ (by omega)
        rw [hh3, hh2, h3]; unfold hgn; rw [if_neg (by omega), if_neg (by omega)]; omega
theorem L_and (hX : POK X) (hP : P 5 0 0 4 = pxd X) (hM1 : 1 ≤ M) (hp : EP X (fun I => f_X5_readNot rc P I v) (fun R => f_X8_readNot rr R v) M) :
    EP X (fun I => f_X5_readAnd rc P I v) (fun R => f_X8_readAnd rr R v) (M + 1) := by
  intro I R b e k D cd len A hl hM
  have hn := hX.2.1
  have hb := A_b A
  show W2 (f_X5_readAnd rc P I v) (f_X8_readAnd rr R v) _
  unfold f_X5_readAnd f_X8_readAnd
  refine w2_bb (hp I R b e k D cd len A hl (by omega)) ?_
  rintro I1 R1 (dd | ⟨b2, e2, k2, cd2, len2, A2, hb3, hl2, hh2, h02⟩)
  · rw [show FU = 1999 + 1 from rfl, d_and7 (Dd_4 dd), e_and5 (Dd_r dd)]
    exact w2_some (Or.inl dd)
  · have hb4 := A_b A2
    exact L_and7 hX hP hM1 hp (by omega) 600 FU FU 0 I1 R1 b2 e2 k2 cd2 len2 A2 (by omega) (by omega) (by unfold FU; omega) (by unfold FU; omega) (by omega) hb3 hl2 hh2 h02
/-! expr -/
theorem L_expr7 (hX : POK X) (hP : P 5 0 0 4 = pxd X) (hM1 : 1 ≤ M) (hp : EP X (fun I => f_X5_readAnd rc P I v) (fun R => f_X8_readAnd rr R v) M) {b0 len0 h : Nat} {D : Dft} (hh : h + 1 + M ≤ 40) : ∀ m fu fu' i I R b e k cd len, Al X I R b e k D cd len → len ≤ b → pxn X - b ≤ m → m < fu → m < fu' → i ≤ b → b0 < b → len + b0 ≤ b + len0 → hg cd len = h + 1 → 0 < len →
    W2 (f_X5_readExpr_48 rc P fu I v (nI i)) (f_X8_readExpression_67 rr fu' R v) (fun I' R' => EX X I' R' b0 D len0 h) := by
  have hn := hX.2.1
  intro m
  induction m with
  | zero =>
    intro fu fu' i I R b e k cd len A hl hm hf hf' hi h1 h2 h3 h4
    obtain ⟨g, rfl⟩ := Nat.exists_eq_succ_of_ne_zero (by omega : fu ≠ 0)
    obtain ⟨g', rfl⟩ := Nat.exists_eq_succ_of_ne_zero (by omega : fu' ≠ 0)
    have hb := A_b A
    have k0 : k = 0 := hb.2.2.2.2.1.mpr (by omega)
    have s1 := L_word hX A (z := 22) (by omega)
    have z1 : (decide (k = 1) && wI (pxt X) b e 22) = false := by simp [k0]
    rw [z1] at s1
    unfold f_X5_readExpr_48 f_X8_readExpression_67
    refine w2_rE _ s1.2 (w2_pr rfl (w2_itel (fun _ => ?_) (fun _ => w2_lE _ s1.1 (w2_pl rfl ?_))))
    · exact w2_some (Or.inr ⟨b, e, k, cd, len, A, h1, h2, h3, h4⟩)
    · exact w2_some (Or.inr ⟨b, e, k, cd, len, A, h1, h2, h3, h4⟩)
  | succ m ih =>
    intro fu fu' i I R b e k cd len A hl hm hf hf' hi h1 h2 h3 h4
    obtain ⟨g, rfl⟩ := Nat.exists_eq_succ_of_ne_zero (by omega : fu ≠ 0)
    obtain ⟨g', rfl⟩ := Nat.exists_eq_succ_of_ne_zero (by omega : fu' ≠ 0)
    obtain ⟨gg, hgg⟩ := Nat.exists_eq_succ_of_ne_zero (by omega : g ≠ 0)
    obtain ⟨gg', hgg'⟩ := Nat.exists_eq_succ_of_ne_zero (by omega : g' ≠ 0)
    have hb := A_b A
    have s1 := L_word hX A (z := 22) (by omega)
    unfold f_X5_readExpr_48 f_X8_readExpression_67
    cases z1 : (decide (k = 1) && wI (pxt X) b e 22)
    · rw [z1] at s1
      refine w2_rE _ s1.2 (w2_pr rfl (w2_itel (fun _ => ?_) (fun _ => w2_lE _ s1.1 (w2_pl rfl ?_))))
      · exact w2_some (Or.inr ⟨b, e, k, cd, len, A, h1, h2, h3, h4⟩)
      · exact w2_some (Or.inr ⟨b, e, k, cd, len, A, h1, h2, h3, h4⟩)
    · have k1 : k = 1 := by simp only [Bool.and_eq_true, decide_eq_true_eq] at z1; exact z1.1
      have hb2 := hb.2.2.2.2.2 (by omega)
      rw [z1] at s1
      refine w2_nl (nI_ge (b := 600) (by omega) (by omega)) (w2_lE _ s1.1 (w2_nl bI_t (w2_rE _ s1.2 (w2_nr bI_t ?_))))
      rw [hP]
      refine w2_bb (L_adv hX A) ?_
      rintro I1 R1 ⟨b1, e1, k1', A1, hb1⟩
      refine w2_bb (hp I1 R1 b1 e1 k1' D cd len A1 (by omega) (by omega)) ?_
      rintro I2 R2 (dd | ⟨b2, e2, k2, cd2, len2, A2, hb3, hl2, hh2, h02⟩)
      · refine w2_gdl (dlt hX.1) (w2_l (Dd_add dd _) (fun I3 d3 => w2_rE _ (d_lay (Dd_r dd) _) ?_))
        rw [hgg, hgg', d_expr48 (Dd_4 d3), e_expr67 (Dd_r dd)]
        exact w2_some (Or.inl d3)
      · have hb4 := A_b A2
        refine w2_gdl (dlt hX.1) (w2_bb (L_lay A2 (by omega) (op := 10005) rfl rfl ⟨by omega, by omega, fun _ => by omega, fun q => by omega, fun _ _ => by omega⟩) ?_)
        rintro I3 R3 ⟨A3, hh3⟩
        rw [nI_1]
        refine ih g g' (i + 1) I3 R3 b2 e2 k2 _ _ A3 (by omega) (by omega) (by omega) (by omega) (by omega) (by omega) (by omega) ?_ (by omega)
        rw [hh3, hh2, h3]; unfold hgn; rw [if_neg (by omega), if_neg (by omega)]; omega
/-! an expression that can't begin so -/
theorem bs_part {I R : Mem} {b e k : Nat} {D : Dft} {cd : Nat → Nat} {len : Nat} (hX : POK X) (A : Al X I R b e k D cd len) (k1 : k ≠ 1) (k2 : k ≠ 2) (hs : sI (pxt X) k b 40 = false) : f_X5_readPart rc P I v = some (rfC I 1) := by
  have hb := A_b A
  have s1 : f_X5_isSign I 40 = some (bI (sI (pxt X) k b 40)) := (L_sign hX A (c := 40) (by omega)).1
  unfold f_X5_readPart
  rw [Al_kc A, if_neg (by rw [n_2, nI_eq (by omega) (by omega)]; exact k2), if_neg (by rw [n_1, nI_eq (by omega) (by omega)]; exact k1), s1, hs, Option.bind_some, if_pos (show bI false = 0 from rfl), (L_ref A (v := 1) (by decide)).1, Option.bind_some]
theorem bs_and {I R : Mem} {b e k : Nat} {D : Dft} {cd : Nat → Nat} {len : Nat} (hX : POK X) (A : Al X I R b e k D cd len) (k1 : k ≠ 1) (k2 : k ≠ 2) (hs : sI (pxt X) k b 40 = false) : f_X5_readAnd rc P I v = some (rfC I 1) := by
  have r1 := L_ref A (v := 1) (by decide)
  have d4 := Dd_4 r1.2.2
  have w : f_X5_isWord I 20 = some (bI (decide (k = 1) && wI (pxt X) b e 20)) := (L_word hX A (z := 20) (by omega)).1
  rw [show (decide (k = 1) && wI (pxt X) b e 20) = false by simp [k1]] at w
  unfold f_X5_readAnd f_X5_readNot
  rw [show FU = 1999 + 1 from rfl]
  unfold f_X5_readNot_2
  rw [if_neg (by decide), w, Option.bind_some, if_pos (show bI false = 0 from rfl)]
  unfold f_X5_readNot_38 f_X5_readTest f_X5_readSum f_X5_readProduct
  rw [bs_part hX A k1 k2 hs, Option.bind_some, show FU = 1999 + 1 from rfl, d_prod7 d4, Option.bind_some, d_sum7 d4, Option.bind_some, d_sign d4, Option.bind_some, if_pos rfl, d_sign d4, Option.bind_some, if_pos rfl]
  unfold f_X5_readTest_36
  rw [if_pos rfl, Option.bind_some]
  unfold f_X5_readNot_45
  rw [if_pos (by decide), Option.bind_some, d_and7 d4]
theorem L_expr6 (hX : POK X) {I R : Mem} {b e k : Nat} {D : Dft} {cd : Nat → Nat} {len : Nat} (A : Al X I R b e k D cd len) : W2 (f_X5_readExpr rc P I 6) (f_X8_readExpression rr R 6) (fun I' R' => Dd X I' R') := by
  have hb := A_b A
  have r2 := L_ref A (v := 2) (by decide)
  have r1 := L_ref A (v := 1) (by decide)
  have s := L_sign hX A (c := 40) (by omega)
  have s1 : f_X5_isSign I 40 = some (bI (sI (pxt X) k b 40)) := s.1
  have s2 : f_X8_isMarked R 40 = some (bI (sI (pxt X) k b 40)) := s.2
  have fin2 : W2 (f_X5_readExpr_32 rc P I) (f_X8_readExpression_33 rr R 6) (fun I' R' => Dd X I' R') := by
    unfold f_X5_readExpr_32 f_X5_readExpr_37 f_X8_readExpression_33 f_X8_readExpression_38
    rw [r2.1, Option.bind_some, if_neg (by decide), if_pos rfl, r2.2.1, Option.bind_some, e_expr62 (Dd_r r2.2.2)]
    exact w2_some r2.2.2
  unfold f_X5_readExpr f_X8_readExpression
  rw [Al_kc A, Al_kr A]
  refine w2_nl (by decide) (w2_pr (Al_r A) ?_)
  by_cases k2 : nI k = 2
  · exact w2_pl k2 (w2_pr k2 fin2)
  refine w2_nl k2 (w2_nr k2 ?_)
  by_cases k1 : nI k = 1
  · exact w2_pl k1 (w2_pr k1 fin2)
  refine w2_nl k1 (w2_nr k1 (w2_lE _ s1 (w2_rE _ s2 ?_)))
  cases hs : sI (pxt X) k b 40
  · refine w2_pl rfl (w2_pr rfl ?_)
    unfold f_X5_readExpr_37 f_X8_readExpression_38
    rw [r1.1, Option.bind_some, if_pos rfl, r1.2.1, Option.bind_some, e_expr62 (Dd_r r1.2.2)]
    exact w2_some r1.2.2
  · exact w2_nl bI_t (w2_nr bI_t fin2)
theorem L_expr (hX : POK X) (hP : P 5 0 0 4 = pxd X) (hM1 : 1 ≤ M) {dp : Nat} (hdp : dp < 6) (hv : v = nI dp) (hp : EP X (fun I => f_X5_readAnd rc P I v) (fun R => f_X8_readAnd rr R v) M) :
    EP X (fun I => f_X5_readExpr rc P I v) (fun R => f_X8_readExpression rr R v) (M + 1) := by
  intro I R b e k D cd len A hl hM
  have hn := hX.2.1
  have hb := A_b A
  have s := L_sign hX A (c := 40) (by omega)
  have s2 : f_X8_isMarked R 40 = some (bI (sI (pxt X) k b 40)) := s.2
  show W2 (f_X5_readExpr rc P I v) (f_X8_readExpression rr R v) _
  have fin : W2 ((f_X5_readAnd rc P I v).bind fun y1 => f_X5_readExpr_48 rc P FU y1 v 0) (f_X8_readExpression_33 rr R v) (fun I' R' => EX X I' R' b D len (hg cd len)) := by
    unfold f_X8_readExpression_33 f_X8_readExpression_38 f_X8_readExpression_62
    rw [if_neg (by decide), if_neg (by rw [hv, show (6 : Int32) = nI 6 from rfl, nI_eq (by omega) (by omega)]; omega)]
    refine w2_bb (hp I R b e k D cd len A hl (by omega)) ?_
    rintro I1 R1 (dd | ⟨b2, e2, k2, cd2, len2, A2, hb3, hl2, hh2, h02⟩)
    · rw [show FU = 1999 + 1 from rfl, d_expr48 (Dd_4 dd), e_expr67 (Dd_r dd)]
      exact w2_some (Or.inl dd)
    · have hb4 := A_b A2
      exact L_expr7 hX hP hM1 hp (by omega) 600 FU FU 0 I1 R1 b2 e2 k2 cd2 len2 A2 (by omega) (by omega) (by unfold FU; omega) (by unfold FU; omega) (by omega) hb3 hl2 hh2 h02
  unfold f_X5_readExpr f_X8_readExpression
  rw [Al_kr A]
  refine w2_pl (by rw [hv]; exact nI_lt (b := 6) (by omega) (by omega)) (w2_pr (Al_r A) ?_)
  by_cases k2 : k = 2
  · exact w2_pr (by rw [k2]; rfl) fin
  refine w2_nr (by rw [n_2, nI_eq (by omega) (by omega)]; exact k2) ?_
  by_cases k1 : k = 1
  · exact w2_pr (by rw [k1]; rfl) fin
  refine w2_nr (by rw [n_1, nI_eq (by omega) (by omega)]; exact k1) (w2_rE _ s2 ?_)
  cases hs : sI (pxt X) k b 40
  · have r1 := L_ref A (v := 1) (by decide)
    refine w2_pr rfl ?_
    unfold f_X8_readExpression_38
    rw [if_pos rfl, r1.2.1, Option.bind_some, e_expr62 (Dd_r r1.2.2), bs_and hX A k1 k2 hs, Option.bind_some, show FU = 1999 + 1 from rfl, d_expr48 (Dd_4 r1.2.2)]
    exact w2_some (Or.inl r1.2.2)
  · exact w2_nr bI_t fin
end
/-! the recursion -/
theorem dX_expr {P : PMem} {I : Mem} (h : I 5 0 0 0 ≠ 0) (h4 : I 5 0 0 5 = 4) (fu : Nat) (w : Int32) : F_X5_readExpr (fu + 1) P I w = some I := d_expr h h4 w
theorem eX_expr {R : Mem} (h : R 8 0 0 21 ≠ 0) (fu : Nat) (w : Int32) : F_X8_readExpression (fu + 1) R w = some R := e_expr h w
theorem L_exprs {X : PX} {P : PMem} (hX : POK X) (hP : P 5 0 0 4 = pxd X) : ∀ m dp fu, dp + m = 6 → m < fu → EP X (fun I => F_X5_readExpr fu P I (nI dp)) (fun R => F_X8_readExpression fu R (nI dp)) (5 * m + 1) := by
  intro m
  induction m with
  | zero =>
    intro dp fu hdp hf
    obtain ⟨g, rfl⟩ := Nat.exists_eq_succ_of_ne_zero (by omega : fu ≠ 0)
    intro I R b e k D cd len A hl hM
    have : dp = 6 := by omega
    subst this
    exact w2_mono (L_expr6 hX A) (fun _ _ h => Or.inl h)
  | succ m ih =>
    intro dp fu hdp hf
    obtain ⟨g, rfl⟩ := Nat.exists_eq_succ_of_ne_zero (by omega : fu ≠ 0)
    obtain ⟨gg, rfl⟩ := Nat.exists_eq_succ_of_ne_zero (by omega : g ≠ 0)
    have hr := ih (dp + 1) (gg + 1) (by omega) (by omega)
    rw [← nI_1] at hr
    have p := L_part (rc := F_X5_readExpr (gg + 1)) (rr := F_X8_readExpression (gg + 1)) (v := nI dp) hX hP (by omega) hr (fun I w h h4 => dX_expr h h4 gg w) (fun R w h => eX_expr h gg w)
    exact L_expr hX hP (by omega) (by omega) rfl (L_and hX hP (by omega) (L_not hX hP (by omega) (L_sum hX hP (by omega) (L_prod hX hP (by omega) p))))
