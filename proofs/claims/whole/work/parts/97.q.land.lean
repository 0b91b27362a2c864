/-! a text is read -/
theorem c_cl63 {d : Nat} : ∀ m fu k I, k + m = 6 → m < fu → (∀ c t, c < k → t < 9 → I 40 d c t = -1) → wp (f_X3_clear_63 d fu I (nI k)) (fun I' => Fr [(40, d)] I I' ∧ ∀ c t, c < 6 → t < 9 → I' 40 d c t = -1) := by
  intro m
  induction m with
  | zero =>
    intro fu k I hk hf h
    obtain ⟨g, rfl⟩ := Nat.exists_eq_succ_of_ne_zero (by omega : fu ≠ 0)
    unfold f_X3_clear_63
    exact wp_pos (nI_le (a := 6) (by omega) (by omega)) (wp_some ⟨Fr.rfl, fun c t hc ht => h c t (by omega) ht⟩)
  | succ m ih =>
    intro fu k I hk hf h
    obtain ⟨g, rfl⟩ := Nat.exists_eq_succ_of_ne_zero (by omega : fu ≠ 0)
    unfold f_X3_clear_63
    rw [nI_clamp (by omega), nI_1]
    refine wp_neg (nI_ge (b := 6) (by omega) (by omega)) (wp_gd (inb_n (by omega)) (wp_bind (c_fill (by rw [show cL 40 d = 9 from rfl]; omega) _) ?_))
    rintro I1 ⟨F, h1⟩
    refine wp_mono (ih g (k + 1) I1 (by omega) (by omega) (fun c t hc ht => ?_)) (fun I' h' => ⟨F.tr h'.1, h'.2⟩)
    rw [h1]
    by_cases q : c = k
    · rw [if_pos ⟨q, by rw [show cL 40 d = 9 from rfl]; exact ht⟩]
    · rw [if_neg (fun y => q y.1)]; exact h c t (by omega) ht
theorem c_cl39 {d : Nat} : ∀ m fu k I, k + m = 9 → m < fu → (∀ c t, c < k → t < 9 → I 28 d c t = 0) → wp (f_X3_clear_39 d fu I (nI k)) (fun I' => Fr [(28, d), (40, d)] I I' ∧ (∀ c t, c < 9 → t < 9 → I' 28 d c t = 0) ∧ ∀ c t, c < 6 → t < 9 → I' 40 d c t = -1) := by
  intro m
  induction m with
  | zero =>
    intro fu k I hk hf h
    obtain ⟨g, rfl⟩ := Nat.exists_eq_succ_of_ne_zero (by omega : fu ≠ 0)
    unfold f_X3_clear_39
    rw [n_0]
    refine wp_pos (nI_le (a := 9) (by omega) (by omega)) (wp_mono (c_cl63 6 FU 0 I (by omega) (by unfold FU; omega) (fun c t hc => by omega)) (fun I' h' => ⟨h'.1.sub (by simp), fun c t hc ht => ?_, h'.2⟩))
    rw [h'.1.g (c := 28) (by simp)]; exact h c t (by omega) ht
  | succ m ih =>
    intro fu k I hk hf h
    obtain ⟨g, rfl⟩ := Nat.exists_eq_succ_of_ne_zero (by omega : fu ≠ 0)
    unfold f_X3_clear_39
    rw [nI_clamp (by omega), nI_1]
    refine wp_neg (nI_ge (b := 9) (by omega) (by omega)) (wp_gd (inb_n (by omega)) (wp_bind (c_fill (by rw [show cL 28 d = 9 from rfl]; omega) _) ?_))
    rintro I1 ⟨F, h1⟩
    refine wp_mono (ih g (k + 1) I1 (by omega) (by omega) (fun c t hc ht => ?_)) (fun I' h' => ⟨(F.sub (by simp)).tr h'.1, h'.2⟩)
    rw [h1]
    by_cases q : c = k
    · rw [if_pos ⟨q, by rw [show cL 28 d = 9 from rfl]; exact ht⟩]
    · rw [if_neg (fun y => q y.1)]; exact h c t (by omega) ht
theorem c_clear {d : Nat} {I : Mem} : wp (f_X3_clear d I) (fun I' => Fr [(3, d), (4, d), (28, d), (40, d)] I I' ∧ (I' 3 d 0 0 = 0 ∧ I' 3 d 0 1 = 0 ∧ I' 3 d 0 2 = 0 ∧ I' 3 d 0 3 = 0 ∧ I' 3 d 0 7 = 0 ∧ I' 3 d 0 13 = 0) ∧ I' 4 d 0 1 = 0 ∧ (∀ c t, c < 9 → t < 9 → I' 28 d c t = 0) ∧ ∀ c t, c < 6 → t < 9 → I' 40 d c t = -1) := by
  unfold f_X3_clear
  refine wp_bnd (wp_bnd (wp_bnd (wp_bnd (wp_bnd (wp_bnd ?_)))))
  have cl : ∀ J, f_X4_clear d J = some (upd4 J 4 d 0 1 0) := fun J => rfl
  rw [cl, Option.bind_some]
  have W := fun J => c_cl39 (d := d) 9 FU 0 J (by omega) (by unfold FU; omega) (fun c t hc => by omega)
  rw [← n_0] at W
  refine wp_mono (W _) ?_
  rintro I' ⟨F, h1, h2⟩
  refine ⟨?_, ⟨?_, ?_, ?_, ?_, ?_, ?_⟩, ?_, h1, h2⟩
  · exact (((((((Fr.up (by simp)).tr (Fr.up (by simp))).tr (Fr.up (by simp))).tr (Fr.up (by simp))).tr (Fr.up (by simp))).tr (Fr.up (by simp))).tr (Fr.up (by simp))).tr (F.sub (by simp))
  · rw [F.g (c := 3) (by simp), u_c (by omega), u3, if_neg (by omega), u3, if_neg (by omega), u3, if_neg (by omega), u3, if_neg (by omega), u3, if_neg (by omega), u3, if_pos rfl]
  · rw [F.g (c := 3) (by simp), u_c (by omega), u3, if_neg (by omega), u3, if_neg (by omega), u3, if_neg (by omega), u3, if_neg (by omega), u3, if_pos rfl]
  · rw [F.g (c := 3) (by simp), u_c (by omega), u3, if_neg (by omega), u3, if_neg (by omega), u3, if_neg (by omega), u3, if_pos rfl]
  · rw [F.g (c := 3) (by simp), u_c (by omega), u3, if_neg (by omega), u3, if_neg (by omega), u3, if_pos rfl]
  · rw [F.g (c := 3) (by simp), u_c (by omega), u3, if_neg (by omega), u3, if_pos rfl]
  · rw [F.g (c := 3) (by simp), u_c (by omega), u3, if_pos rfl]
  · rw [F.g (c := 4) (by simp), u_at]
theorem r_l84 {X : PX} : ∀ m fu k R, k + m = 81 → m < fu → KR X R → (∀ i, i < k → R 51 0 0 (81 + i) = 0) → ∃ R', f_X8_land_84 fu R (nI k) = (f_X8_stepOn R').bind (fun y1 => f_X8_land_112 FU y1 0) ∧ KR X R' ∧ R' 8 = R 8 ∧ R' 50 = R 50 ∧ R' 60 = R 60 ∧ ∀ i, i < 81 → R' 51 0 0 (81 + i) = 0 := by
  intro m
  induction m with
  | zero =>
    intro fu k R hk hf hR h
    obtain ⟨g, rfl⟩ := Nat.exists_eq_succ_of_ne_zero (by omega : fu ≠ 0)
    refine ⟨R, ?_, hR, rfl, rfl, rfl, fun i hi => h i (by omega)⟩
    unfold f_X8_land_84
    rw [if_pos (show (81 : Int32) ≤ nI k from nI_le (a := 81) (by omega) (by omega))]
  | succ m ih =>
    intro fu k R hk hf hR h
    obtain ⟨g, rfl⟩ := Nat.exists_eq_succ_of_ne_zero (by omega : fu ≠ 0)
    obtain ⟨R', e1, e2, e3, e4, e5, e6⟩ := ih g (k + 1) (upd4 R 51 0 0 (81 + k) 0) (by omega) (by omega) (KR_up hR (by unfold tRg; omega)) (fun i hi => by
      rw [u5]
      by_cases q : i = k
      · rw [if_pos (by omega)]
      · rw [if_neg (by omega)]; exact h i (by omega))
    refine ⟨R', ?_, e2, e3.trans (u_c (by omega)), e4.trans (u_c (by omega)), e5.trans (u_c (by omega)), e6⟩
    unfold f_X8_land_84
    rw [if_neg (show ¬ (81 : Int32) ≤ nI k from nI_ge (b := 81) (by omega) (by omega)), show (81 : Int32) = nI 81 from rfl, nI_add, gd_t (inb_n (by omega)), nI_clamp (by omega), nI_1]
    exact e1
theorem r_l50 {X : PX} : ∀ m fu k R, k + m = 7 → m < fu → KR X R → (∀ i, i < k → R 50 0 0 (7 + i) = if i = 3 then 10 else 0) → ∃ R', f_X8_land_50 fu R (nI k) = f_X8_land_84 FU R' 0 ∧ KR X R' ∧ R' 8 = R 8 ∧ R' 60 = R 60 ∧ ∀ i, i < 7 → R' 50 0 0 (7 + i) = if i = 3 then 10 else 0 := by
  intro m
  induction m with
  | zero =>
    intro fu k R hk hf hR h
    obtain ⟨g, rfl⟩ := Nat.exists_eq_succ_of_ne_zero (by omega : fu ≠ 0)
    refine ⟨R, ?_, hR, rfl, rfl, fun i hi => h i (by omega)⟩
    unfold f_X8_land_50
    rw [if_pos (show (7 : Int32) ≤ nI k from nI_le (a := 7) (by omega) (by omega))]
  | succ m ih =>
    intro fu k R hk hf hR h
    obtain ⟨g, rfl⟩ := Nat.exists_eq_succ_of_ne_zero (by omega : fu ≠ 0)
    obtain ⟨R', e1, e2, e3, e5, e6⟩ := ih g (k + 1) (upd4 R 50 0 0 (7 + k) (if k = 3 then 10 else 0)) (by omega) (by omega) (KR_up hR (by unfold tRg; omega)) (fun i hi => by
      rw [u5]
      by_cases q : i = k
      · rw [if_pos (by omega), q]
      · rw [if_neg (by omega)]; exact h i (by omega))
    refine ⟨R', ?_, e2, e3.trans (u_c (by omega)), e5.trans (u_c (by omega)), e6⟩
    unfold f_X8_land_50
    rw [if_neg (show ¬ (7 : Int32) ≤ nI k from nI_ge (b := 7) (by omega) (by omega))]
    by_cases q : k = 3
    · rw [if_pos (by rw [q]; rfl), show (7 : Int32) = nI 7 from rfl, nI_add, gd_t (inb_n (by omega)), nI_clamp (by omega), nI_1]; rw [if_pos q] at e1; exact e1
    · rw [if_neg (by rw [n_3, nI_eq (by omega) (by omega)]; exact q), show (7 : Int32) = nI 7 from rfl, nI_add, gd_t (inb_n (by omega)), nI_clamp (by omega), nI_1]; rw [if_neg q] at e1; exact e1
def D0 : Dft := (0, 0, 0, 0, 0, 0, (fun _ => 0), (fun _ _ => 0), (fun _ _ => 0), (fun _ _ => -1), (fun _ => 0), (fun _ => 0), (fun _ => 0))
theorem KC_fr {X : PX} {I I' : Mem} {S : List (Nat × Nat)} (h : KC X I) (F : Fr S I I') (hs : ∀ x, x ∈ S → x.2 = pxd X ∧ tCg x.1) : KC X I' := fun c z => by
  rcases F c z with q | q
  · exact Or.inr (Or.inr (hs _ q))
  · rw [q]; exact h c z
theorem L_read {I R : Mem} {P : PMem} {d N : Nat} {tb : Nat → Nat} (hd : d < 2) (hN : N ≤ 600) (h256 : ∀ i, tb i < 256) (tC : ∀ i, i < N → I 47 0 0 i = sb (tb i)) (tR : ∀ i, i < N → R 60 0 0 i = nI (tb i)) (R16 : R 8 0 0 16 = nI N) (R15 : R 8 0 0 15 = 0) (R21 : R 8 0 0 21 = 0) :
    ∃ I' R', f_X5_readLand d I P (nI N) = f_X5_readLand_77 d I' (updP P 5 0 0 4 d) ∧ f_X8_land_50 FU R 0 = f_X8_land_135 R' ∧ QE (I, R, d, N, tb) I' R' := by
  have hX : POK (I, R, d, N, tb) := ⟨hd, hN, h256⟩
  have kc0 : KC (I, R, d, N, tb) I := fun c z => Or.inl rfl
  have kr0 : KR (I, R, d, N, tb) R := ⟨fun c _ _ => rfl, fun c i => Or.inl rfl⟩
  have hP1 : updP P 5 0 0 4 d 5 0 0 4 = d := by simp [updP]
  obtain ⟨R1, e1, k1, a8, a60, a50⟩ := r_l50 (X := (I, R, d, N, tb)) 7 FU 0 R (by omega) (by unfold FU; omega) kr0 (fun i hi => by omega)
  obtain ⟨R2, e2, k2, b8, b50, b60, b51⟩ := r_l84 (X := (I, R, d, N, tb)) 81 FU 0 R1 (by omega) (by unfold FU; omega) k1 (fun i hi => by omega)
  have r8 : R2 8 = R 8 := b8.trans a8
  have r60 : R2 60 = R 60 := b60.trans a60
  have tpr : tpR N tb R2 := ⟨by rw [r8]; exact R16, fun i hi => by rw [r60]; exact tR i hi⟩
  obtain ⟨R3, e3, T⟩ := r_step h256 hN (e := 0) (by omega) tpr (by rw [r8, R15]; rfl)
  obtain ⟨g1, g2, g3, g4, g5, g6⟩ := T
  -- class
  obtain ⟨J1, f1, F1, c3, c4, c28, c40⟩ := c_clear (d := d) (I := upd4 I 5 0 0 3 (nI N))
  have jm : jmin (nI N) 600 = nI N := by
    rw [show (600 : Int32) = nI 600 from rfl, jmin_n (by omega) (by omega), Nat.min_eq_left hN]
  obtain ⟨J2, hJ2⟩ : ∃ J2, J2 = upd4 (upd4 (upd4 J1 5 0 0 0 0) 5 0 0 1 (-1)) 5 0 0 7 0 := ⟨_, rfl⟩
  have n5 : ∀ c, c ≠ 5 → J2 c = J1 c := fun c hc => by rw [hJ2, u_c hc, u_c hc, u_c hc]
  have kcJ : KC (I, R, d, N, tb) J2 := by
    rw [hJ2]
    refine KC_up5 (KC_up5 (KC_up5 (KC_fr (KC_up5 kc0) F1 ?_)))
    intro x hx
    simp only [List.mem_cons, List.not_mem_nil, or_false] at hx
    rcases hx with rfl | rfl | rfl | rfl <;> exact ⟨rfl, by unfold tCg; omega⟩
  have f5 : ∀ f, J1 5 0 0 f = upd4 I 5 0 0 3 (nI N) 5 0 0 f := fun f => by rw [F1.g (c := 5) (z := 0) (by simp)]
  have tpc : tpC N tb J2 := by
    refine ⟨?_, fun i hi => ?_⟩
    · rw [hJ2, u5, if_neg (by omega), u5, if_neg (by omega), u5, if_neg (by omega), f5, u5, if_pos rfl]
    · rw [n5 47 (by omega), F1.g (c := 47) (by simp), u_c (by omega)]; exact tC i hi
  have z0 : J2 5 0 0 0 = 0 := by rw [hJ2, u5, if_neg (by omega), u5, if_neg (by omega), u5, if_pos rfl]
  have z1 : J2 5 0 0 1 = -1 := by rw [hJ2, u5, if_neg (by omega), u5, if_pos rfl]
  have z7 : J2 5 0 0 7 = nI 0 := by rw [hJ2, u5, if_pos rfl]; rfl
  obtain ⟨J3, f3, E, x5, x6, x7⟩ := c_adv h256 hN (e := 0) (by omega) tpc z0 z7
  have Bb := tB_b (n := N) (tb := tb) (e := 0) (by omega)
  have Eb := tE_b (n := N) (tb := tb) Bb.2
  have n5' : ∀ c, c ≠ 5 → J3 c = J1 c := fun c hc => (E.1 c hc).trans (n5 c hc)
  have A : Al (I, R, d, N, tb) J3 R3 (tB N tb 0) (tE N tb (tB N tb 0)) (tK N tb (tB N tb 0)) D0 (fun _ => 0) 0 := by
    refine ⟨⟨KC_e kcJ E, KR_e k2 g1⟩, ⟨tpC_e tpc E, tpR_e tpr g1⟩, ⟨⟨?_, ?_, x5, x6, x7⟩, ⟨?_, g2, g3, g4, g5, g6⟩, Bb.2, Eb.2.1, rfl, rfl⟩, ⟨⟨⟨?_, ?_, ?_, ?_, ?_, ?_⟩, fun a b ha hb => ?_, fun j hj => absurd hj (Nat.not_lt_zero _), fun j hj => absurd hj (Nat.not_lt_zero _), fun c t hc ht => ?_⟩, ⟨⟨?_, ?_, ?_, ?_, ?_, ?_⟩, fun a b ha hb => ?_, fun j hj => absurd hj (Nat.not_lt_zero _), fun j hj => absurd hj (Nat.not_lt_zero _), fun c t hc => absurd hc (Nat.not_lt_zero _)⟩, ⟨⟨by decide, by decide, by decide, by decide⟩, fun j hj => absurd hj (Nat.not_lt_zero _), fun j hj => absurd hj (Nat.not_lt_zero _), fun j hj => absurd hj (Nat.not_lt_zero _), fun a b _ _ => ⟨rfl, show (0 : Int) ≤ (0 : Int32).toInt by decide, show (0 : Int32).toInt ≤ 9 by decide⟩, fun j hj => absurd hj (Nat.not_lt_zero _), Or.inl rfl⟩⟩, ⟨?_, fun k hk => absurd hk (Nat.not_lt_zero _)⟩, ⟨?_, fun k hk => absurd hk (Nat.not_lt_zero _)⟩, by omega, fun k hk => absurd hk (Nat.not_lt_zero _)⟩
    · rw [E.2 0 (by omega)]; exact z0
    · rw [E.2 1 (by omega)]; exact z1
    · rw [g1.2 21 (by unfold fS; omega), r8]; exact R21
    · rw [n5' 3 (by omega)]; exact c3.1
    · rw [n5' 3 (by omega)]; exact c3.2.1
    · rw [n5' 3 (by omega)]; exact c3.2.2.1
    · rw [n5' 3 (by omega)]; exact c3.2.2.2.1
    · rw [n5' 3 (by omega)]; exact c3.2.2.2.2.1
    · rw [n5' 3 (by omega)]; exact c3.2.2.2.2.2
    · rw [n5' 28 (by omega)]; exact c28 a b ha hb
    · rw [n5' 40 (by omega)]; exact c40 c t hc ht
    · rw [g1.1 50 (by omega), b50]; exact a50 0 (by omega)
    · rw [g1.1 50 (by omega), b50]; exact a50 1 (by omega)
    · rw [g1.1 50 (by omega), b50]; exact a50 2 (by omega)
    · rw [g1.1 50 (by omega), b50]; exact a50 3 (by omega)
    · rw [g1.1 50 (by omega), b50]; exact a50 4 (by omega)
    · rw [g1.1 50 (by omega), b50]; exact a50 5 (by omega)
    · rw [g1.1 51 (by omega)]; exact b51 (9 * a + b) (by omega)
    · rw [n5' 4 (by omega)]; exact c4
    · rw [g1.1 50 (by omega), b50]; exact a50 6 (by omega)
  obtain ⟨I', R', l1, l2, l3⟩ := L_lines (X := (I, R, d, N, tb)) (P := updP P 5 0 0 4 d) hX hP1 (z := d) 600 FU FU 0 J3 R3 0 (Or.inr ⟨_, _, _, D0, _, 0, A, fun c t _ _ _ => rfl, by omega, Or.inl rfl, rfl, by show N - _ ≤ 600; omega, by omega⟩) (by unfold FU; omega) (by unfold FU; omega)
  refine ⟨I', R', ?_, ?_, l3⟩
  · unfold f_X5_readLand
    simp only [bnd]
    rw [jm, hP1, gd_t (dlt hd), f1, Option.bind_some]
    rw [hJ2] at f3
    rw [f3, Option.bind_some]
    exact l1
  · rw [n_0, e1, n_0, e2, e3, Option.bind_some]
    exact l2
