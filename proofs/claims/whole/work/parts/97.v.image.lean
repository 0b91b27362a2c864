/-! pairs of calls: image, restore -/
theorem cpOK_n {n a b : Nat} (ha : n ≤ a) (hb : n ≤ b) (hn : n < 2 ^ 31) : cpOK 0 0 (nI n) a b = true := by
  unfold cpOK
  rw [nI_toInt hn]
  have z : (0 : Int32).toInt = 0 := rfl
  exact decide_eq_true ⟨by omega, by omega, by omega, by omega, by omega⟩
theorem cRw_z {I I' : Mem} {z n : Nat} {a1 a2 a3 : Nat → Int32} (h : cRw I z n a1 a2 a3) (e6 : I' 6 z = I 6 z) (e4 : I' 44 z = I 44 z) (e5 : I' 45 z = I 45 z) (e7 : I' 46 z = I 46 z) : cRw I' z n a1 a2 a3 := by
  unfold cRw at *
  rw [e6, e4, e5, e7]; exact h
theorem c_rcopy {I : Mem} {z0 z1 n : Nat} {a1 a2 a3 : Nat → Int32} (hz : z0 ≠ z1) (hl : rowsLen z0 = rowsLen z1) (h : cRw I z1 n a1 a2 a3) :
    wp (f_X6_copyFrom z0 z1 I) (fun I' => Fr [(6, z0), (44, z0), (45, z0), (46, z0)] I I' ∧ cRw I' z0 n a1 a2 a3) := by
  obtain ⟨h1, h2, h3⟩ := h
  have h40 := rl (b := z1)
  have jm : jmin (I 6 z1 0 3) (Int32.ofNat (rowsLen z0)) = nI n := by
    rw [h1, hl]
    have := jmin_n (a := n) (b := rowsLen z1) (by omega) (by omega)
    rw [Nat.min_eq_left h2] at this
    exact this
  unfold f_X6_copyFrom
  rw [jm]
  have e1 : upd4 I 6 z0 0 3 (nI n) 6 z0 0 3 = nI n := u_at
  refine wp_bnd ?_
  rw [e1]
  refine wp_gd (cpOK_n (by omega) (by omega) (by omega)) (wp_bnd ?_)
  rw [upR_c (c' := 6) (by omega), e1]
  refine wp_gd (cpOK_n (by omega) (by omega) (by omega)) (wp_bnd ?_)
  rw [upR_c (c' := 6) (by omega), upR_c (c' := 6) (by omega), e1]
  refine wp_gd (cpOK_n (by omega) (by omega) (by omega)) (wp_bnd (wp_some ⟨?_, ?_, ?_, fun k hk => ⟨?_, ?_, ?_⟩⟩))
  · exact (((Fr.up (by simp)).tr (Fr.upR (by simp))).tr (Fr.upR (by simp))).tr (Fr.upR (by simp))
  · rw [upR_c (c' := 6) (by omega), upR_c (c' := 6) (by omega), upR_c (c' := 6) (by omega)]; exact e1
  · omega
  · rw [upR_c (by omega), upR_c (by omega), upR_at, nI_clamp (by omega), pk_cpy_in (by show (0 : Nat) ≤ k; omega) (by show k < 0 + n; omega), u_c (by omega)]
    show I 44 z1 0 (0 + (k - 0)) = _
    rw [Nat.zero_add, Nat.sub_zero]; exact (h3 k hk).1
  · rw [upR_c (by omega), upR_at, nI_clamp (by omega), pk_cpy_in (by show (0 : Nat) ≤ k; omega) (by show k < 0 + n; omega), upR_c (by omega), u_c (by omega)]
    show I 45 z1 0 (0 + (k - 0)) = _
    rw [Nat.zero_add, Nat.sub_zero]; exact (h3 k hk).2.1
  · rw [upR_at, nI_clamp (by omega), pk_cpy_in (by show (0 : Nat) ≤ k; omega) (by show k < 0 + n; omega), upR_c (by omega), upR_c (by omega), u_c (by omega)]
    show I 46 z1 0 (0 + (k - 0)) = _
    rw [Nat.zero_add, Nat.sub_zero]; exact (h3 k hk).2.2
theorem rl5 {z k : Nat} (hk : k < 5) (z' : Nat) : rowsLen (5 * z + k) = rowsLen (5 * z' + k) := by
  unfold rowsLen
  rw [show (5 * z + k) % 5 = k by omega, show (5 * z' + k) % 5 = k by omega]
theorem c_copy {I : Mem} {z0 z1 J : Nat} {E : Bx} (hz : z0 ≠ z1) (hJ : J ≤ 5) (h : BxC I z1 J E) :
    wp (f_X0_copyFrom z0 z1 I) (fun I' => BxC I' z0 J E ∧ BxC I' z1 J E ∧ ∀ c, ¬ c ∈ [0, 6, 9, 10, 44, 45, 46] → I' c = I c) := by
  obtain ⟨⟨b1, b2, b3, b4, b5⟩, x2, x3, x4⟩ := h
  unfold f_X0_copyFrom
  refine wp_gd (by decide) (wp_bnd (wp_bnd ?_))
  obtain ⟨I1, hI1⟩ : ∃ I1, I1 = upd4 (updR I 9 z0 0 (va_cpy (I 9 z1 0) (I 9 z0 0) (0 : Int32).toNatClampNeg (0 : Int32).toNatClampNeg (5 : Int32).toNatClampNeg)) 0 z0 0 1 (updR I 9 z0 0 (va_cpy (I 9 z1 0) (I 9 z0 0) (0 : Int32).toNatClampNeg (0 : Int32).toNatClampNeg (5 : Int32).toNatClampNeg) 0 z1 0 1) := ⟨_, rfl⟩
  rw [← hI1]
  have F1 : Fr [(9, z0), (0, z0)] I I1 := by rw [hI1]; exact (Fr.upR (by simp)).tr (Fr.up (by simp))
  have d1 : ∀ j, j < J → I1 9 z0 0 j = bd0 (xB E) j := fun j hj => by
    rw [hI1, u_c (by omega), upR_at, pk_cpy_in (by show (0 : Nat) ≤ j; omega) (by show j < 0 + 5; omega)]
    show I 9 z1 0 (0 + (j - 0)) = _
    rw [Nat.zero_add, Nat.sub_zero]; exact b1 j hj
  have n1 : I1 0 z0 0 1 = binns (xB E) := by rw [hI1, u_at, upR_c (by omega)]; exact b2
  have g1 : ∀ c, c ≠ 9 → c ≠ 0 → I1 c = I c := fun c h9 h0 => F1.gc (fun z => by simp; omega)
  have r0 : ∀ z n a1 a2 a3, cRw I z n a1 a2 a3 → cRw I1 z n a1 a2 a3 := fun z n a1 a2 a3 h => cRw_z h (by rw [g1 6 (by omega) (by omega)]) (by rw [g1 44 (by omega) (by omega)]) (by rw [g1 45 (by omega) (by omega)]) (by rw [g1 46 (by omega) (by omega)])
  have step : ∀ {A B : Mem} {y : Nat}, Fr [(6, y), (44, y), (45, y), (46, y)] A B → ∀ z n a1 a2 a3, z ≠ y → cRw A z n a1 a2 a3 → cRw B z n a1 a2 a3 := fun F z n a1 a2 a3 hz h => cRw_z h (F.g (by simp; omega)) (F.g (by simp; omega)) (F.g (by simp; omega)) (F.g (by simp; omega))
  refine wp_bind (c_rcopy (z0 := 5 * z0 + 0) (z1 := 5 * z1 + 0) (by omega) (rl5 (by omega) z1) (r0 _ _ _ _ _ b3)) ?_
  rintro I2 ⟨F2, k0⟩
  refine wp_bind (c_rcopy (z0 := 5 * z0 + 1) (z1 := 5 * z1 + 1) (by omega) (rl5 (by omega) z1) (step F2 _ _ _ _ _ (by omega) (r0 _ _ _ _ _ b4))) ?_
  rintro I3 ⟨F3, k1⟩
  refine wp_bind (c_rcopy (z0 := 5 * z0 + 2) (z1 := 5 * z1 + 2) (by omega) (rl5 (by omega) z1) (step F3 _ _ _ _ _ (by omega) (step F2 _ _ _ _ _ (by omega) (r0 _ _ _ _ _ b5)))) ?_
  rintro I4 ⟨F4, k2⟩
  refine wp_bind (c_rcopy (z0 := 5 * z0 + 3) (z1 := 5 * z1 + 3) (by omega) (rl5 (by omega) z1) (step F4 _ _ _ _ _ (by omega) (step F3 _ _ _ _ _ (by omega) (step F2 _ _ _ _ _ (by omega) (r0 _ _ _ _ _ x2))))) ?_
  rintro I5 ⟨F5, k3⟩
  refine wp_bind (c_rcopy (z0 := 5 * z0 + 4) (z1 := 5 * z1 + 4) (by omega) (rl5 (by omega) z1) (step F5 _ _ _ _ _ (by omega) (step F4 _ _ _ _ _ (by omega) (step F3 _ _ _ _ _ (by omega) (step F2 _ _ _ _ _ (by omega) (r0 _ _ _ _ _ x3)))))) ?_
  rintro I6 ⟨F6, k4⟩
  have all : ∀ z n a1 a2 a3, z ≠ 5 * z0 + 0 → z ≠ 5 * z0 + 1 → z ≠ 5 * z0 + 2 → z ≠ 5 * z0 + 3 → z ≠ 5 * z0 + 4 → cRw I z n a1 a2 a3 → cRw I6 z n a1 a2 a3 := fun z n a1 a2 a3 q0 q1 q2 q3 q4 h => step F6 _ _ _ _ _ q4 (step F5 _ _ _ _ _ q3 (step F4 _ _ _ _ _ q2 (step F3 _ _ _ _ _ q1 (step F2 _ _ _ _ _ q0 (r0 _ _ _ _ _ h)))))
  have gA : ∀ c, c ≠ 6 → c ≠ 44 → c ≠ 45 → c ≠ 46 → I6 c = I1 c := fun c h6 h4 h5 h7 => by
    rw [F6.gc (c := c) (fun z => by simp; omega), F5.gc (c := c) (fun z => by simp; omega), F4.gc (c := c) (fun z => by simp; omega), F3.gc (c := c) (fun z => by simp; omega), F2.gc (c := c) (fun z => by simp; omega)]
  have c10 : I6 10 = I 10 := (gA 10 (by omega) (by omega) (by omega) (by omega)).trans (g1 10 (by omega) (by omega))
  refine wp_gd (by decide) (wp_bnd (wp_some ?_))
  obtain ⟨I7, hI7⟩ : ∃ I7, I7 = updR I6 10 z0 0 (va_cpy (I6 10 z1 0) (I6 10 z0 0) (0 : Int32).toNatClampNeg (0 : Int32).toNatClampNeg (3 : Int32).toNatClampNeg) := ⟨_, rfl⟩
  rw [← hI7]
  have g7 : ∀ c, c ≠ 10 → I7 c = I6 c := fun c hc => by rw [hI7, upR_c hc]
  have r7 : ∀ z n a1 a2 a3, cRw I6 z n a1 a2 a3 → cRw I7 z n a1 a2 a3 := fun z n a1 a2 a3 h => cRw_z h (by rw [g7 6 (by omega)]) (by rw [g7 44 (by omega)]) (by rw [g7 45 (by omega)]) (by rw [g7 46 (by omega)])
  have s0 : cRw I6 (5 * z0 + 0) (bn (xB E)) (bw1 (xB E)) (fun k => nI (bwt (xB E) k)) (bw3 (xB E)) := step F6 _ _ _ _ _ (by omega) (step F5 _ _ _ _ _ (by omega) (step F4 _ _ _ _ _ (by omega) (step F3 _ _ _ _ _ (by omega) k0)))
  have s1 := step F6 _ _ _ _ _ (by omega) (step F5 _ _ _ _ _ (by omega) (step F4 _ _ _ _ _ (by omega) k1))
  have s2 := step F6 _ _ _ _ _ (by omega) (step F5 _ _ _ _ _ (by omega) k2)
  have s3 := step F6 _ _ _ _ _ (by omega) k3
  refine ⟨⟨⟨fun j hj => ?_, ?_, r7 _ _ _ _ _ s0, r7 _ _ _ _ _ s1, r7 _ _ _ _ _ s2⟩, r7 _ _ _ _ _ s3, r7 _ _ _ _ _ k4, fun k hk => ?_⟩, ⟨⟨fun j hj => ?_, ?_, r7 _ _ _ _ _ (all _ _ _ _ _ (by omega) (by omega) (by omega) (by omega) (by omega) b3), r7 _ _ _ _ _ (all _ _ _ _ _ (by omega) (by omega) (by omega) (by omega) (by omega) b4), r7 _ _ _ _ _ (all _ _ _ _ _ (by omega) (by omega) (by omega) (by omega) (by omega) b5)⟩, r7 _ _ _ _ _ (all _ _ _ _ _ (by omega) (by omega) (by omega) (by omega) (by omega) x2), r7 _ _ _ _ _ (all _ _ _ _ _ (by omega) (by omega) (by omega) (by omega) (by omega) x3), fun k hk => ?_⟩, fun c hc => ?_⟩
  · rw [g7 9 (by omega), gA 9 (by omega) (by omega) (by omega) (by omega)]; exact d1 j hj
  · rw [g7 0 (by omega), gA 0 (by omega) (by omega) (by omega) (by omega)]; exact n1
  · rw [hI7, upR_at, pk_cpy_in (by show (0 : Nat) ≤ k; omega) (by show k < 0 + 3; omega), c10]
    show I 10 z1 0 (0 + (k - 0)) = _
    rw [Nat.zero_add, Nat.sub_zero]; exact x4 k hk
  · rw [g7 9 (by omega), gA 9 (by omega) (by omega) (by omega) (by omega), F1.g (c := 9) (by simp; omega)]; exact b1 j hj
  · rw [g7 0 (by omega), gA 0 (by omega) (by omega) (by omega) (by omega), F1.g (c := 0) (by simp; omega)]; exact b2
  · rw [hI7]
    unfold updR
    rw [if_neg (fun y => hz y.2.1.symm), c10]; exact x4 k hk
  · simp only [List.mem_cons, List.not_mem_nil, or_false, not_or] at hc
    rw [g7 c hc.2.2.2.1, gA c hc.2.1 hc.2.2.2.2.1 hc.2.2.2.2.2.1 hc.2.2.2.2.2.2, g1 c hc.2.2.1 hc.1]
/-! the reference -/
theorem r_be2 {c0 c1 n : Nat} {R0 : Nat → Int32} (h0 : cL c0 0 = n) (h1 : cL c1 0 = n) (hne : c1 ≠ c0) (hn : n ≤ 1900) : ∀ m fu k R, k + m = n → m < fu → (∀ i, R c1 0 0 i = R0 i) → (∀ i, i < k → R c0 0 0 i = R0 i) →
    wp (f_X8_be_2 c0 0 0 c1 0 0 fu R (nI k)) (fun R' => Fr [(c0, 0)] R R' ∧ ∀ i, i < n → R' c0 0 0 i = R0 i) := by
  intro m
  induction m with
  | zero =>
    intro fu k R hk hf q1 q2
    obtain ⟨g, rfl⟩ := Nat.exists_eq_succ_of_ne_zero (by omega : fu ≠ 0)
    unfold f_X8_be_2
    rw [h0]
    exact wp_pos (nI_le (a := n) (by omega) (by omega)) (wp_some ⟨Fr.rfl, fun i hi => q2 i (by omega)⟩)
  | succ m ih =>
    intro fu k R hk hf q1 q2
    obtain ⟨g, rfl⟩ := Nat.exists_eq_succ_of_ne_zero (by omega : fu ≠ 0)
    unfold f_X8_be_2
    rw [h0, h1, nI_clamp (by omega), q1, nI_1]
    refine wp_neg (nI_ge (b := n) (by omega) (by omega)) (wp_gd (inb_n (by omega)) (wp_gd (inb_n (by omega)) (wp_bnd ?_)))
    refine wp_mono (ih g (k + 1) _ (by omega) (by omega) (fun i => by rw [u_c hne]; exact q1 i) (fun i hi => ?_)) (fun R' h => ⟨(Fr.up (by simp)).tr h.1, h.2⟩)
    rw [u5]
    by_cases q : i = k
    · rw [if_pos q, q]
    · rw [if_neg q]; exact q2 i (by omega)
theorem r_be {c0 c1 n : Nat} {R : Mem} (h0 : cL c0 0 = n) (h1 : cL c1 0 = n) (hne : c1 ≠ c0) (hn : n ≤ 1900) : wp (f_X8_be c0 0 0 c1 0 0 R) (fun R' => Fr [(c0, 0)] R R' ∧ ∀ i, i < n → R' c0 0 0 i = R c1 0 0 i) := by
  unfold f_X8_be
  have W := r_be2 (R0 := fun i => R c1 0 0 i) h0 h1 hne hn n FU 0 R (by omega) (by unfold FU; omega) (fun i => rfl) (fun i hi => by omega)
  rw [← n_0] at W
  exact W
theorem pkd_x {I I' : Mem} {c c' q J : Nat} {S : Ben} (hJ : J ≤ 5) (hS : bn S ≤ 4 ∧ bnf S ≤ 4 ∧ bnl S ≤ 4) (h : pkd I c q J S) (he : ∀ x, x < 45 → I' c' 0 0 (q + x) = I c 0 0 (q + x)) : pkd I' c' q J S := by
  have := pkd_eq (I' := updR I' c 0 0 (I' c' 0 0)) (q' := q) hJ hS h (fun x hx => by rw [upR_at]; exact he x hx)
  unfold pkd at this ⊢
  rw [upR_at] at this
  exact this
