/-! a text without a fault -/
theorem r_half2 {c H : Nat} {R0 : Nat → Int32} (hc : cL c 0 = 2 * H) (hH : H ≤ 700) : ∀ m fu k R, k + m = H → m < fu → (∀ i, i < k → R c 0 0 i = R0 (H + i)) → (∀ i, k ≤ i → R c 0 0 i = R0 i) →
    wp (f_X8_takeHalf_2 c 0 0 fu R (nI k)) (fun R' => Fr [(c, 0)] R R' ∧ ∀ i, i < H → R' c 0 0 i = R0 (H + i)) := by
  have hd : Int32.ofNat (cL c 0) / 2 = nI H := by
    rw [hc]
    have := pk_div (a := 2 * H) (d := 2) (by omega) (by omega) (by omega)
    rw [Nat.mul_div_cancel_left H (by omega)] at this
    exact this
  intro m
  induction m with
  | zero =>
    intro fu k R hk hf h1 h2
    obtain ⟨g, rfl⟩ := Nat.exists_eq_succ_of_ne_zero (by omega : fu ≠ 0)
    unfold f_X8_takeHalf_2
    rw [hd]
    exact wp_pos (nI_le (by omega) (by omega)) (wp_some ⟨Fr.rfl, fun i hi => h1 i (by omega)⟩)
  | succ m ih =>
    intro fu k R hk hf h1 h2
    obtain ⟨g, rfl⟩ := Nat.exists_eq_succ_of_ne_zero (by omega : fu ≠ 0)
    unfold f_X8_takeHalf_2
    rw [hd, nI_add, hc, nI_1, nI_clamp (by omega), nI_clamp (by omega), h2 (H + k) (by omega)]
    refine wp_neg (nI_ge (by omega) (by omega)) (wp_gd (inb_n (by omega)) (wp_gd (inb_n (by omega)) (wp_bnd ?_)))
    refine wp_mono (ih g (k + 1) _ (by omega) (by omega) (fun i hi => ?_) (fun i hi => ?_)) (fun R' h => ⟨(Fr.up (by simp)).tr h.1, h.2⟩)
    · rw [u5]
      by_cases q : i = k
      · rw [if_pos q, q]
      · rw [if_neg q]; exact h1 i (by omega)
    · rw [u5, if_neg (by omega)]; exact h2 i (by omega)
theorem r_half {c H : Nat} {R : Mem} (hc : cL c 0 = 2 * H) (hH : H ≤ 700) : wp (f_X8_takeHalf c 0 0 R) (fun R' => Fr [(c, 0)] R R' ∧ ∀ i, i < H → R' c 0 0 i = R c 0 0 (H + i)) := by
  unfold f_X8_takeHalf
  have W := r_half2 (R0 := fun i => R c 0 0 i) hc hH H FU 0 R (by omega) (by unfold FU; omega) (fun i hi => by omega) (fun i hi => rfl)
  rw [← n_0] at W
  exact W
def gge (D : Dft) : Int32 := if dgg D = 0 then 10 else dgg D
def mkL (D : Dft) (cd : Nat → Nat) (len : Nat) : Land :=
  (dT D, dJ D, dC D, dns D, drt D, drm D, dpf D, dkd D, dhs D, cd, len, fw1 (dT D) 0 (dT D) (v0w (drm D)), gge D, nww (fw1 (dT D) 0 (dT D) (v0w (drm D))) (gge D), dnr D)
def mkB (D : Dft) : Ben := (dst D, dinn D, 0, (fun _ => 0), (fun _ => 0), (fun _ => 0), 0, (fun _ => 0), (fun _ => 0), (fun _ => 0), 0, (fun _ => 0), (fun _ => 0), (fun _ => 0))
def mkE (D : Dft) (st : Nat → Int32) : Bx := ((fun _ => mkB D), 0, (fun _ => 0), (fun _ => 0), (fun _ => 0), 0, (fun _ => 0), (fun _ => 0), (fun _ => false), st)
def mkA (a : Abs) (D : Dft) (cd : Nat → Nat) (len : Nat) : Abs := (mkL D cd len, mkE D (xst (yE a)), false, yV a, 0, ytb a, -1)
theorem gge_b {D : Dft} (h : DOK D) : 1 ≤ (gge D).toInt ∧ (gge D).toInt ≤ 40 := by
  unfold gge
  rcases h.2.2.2.2.2.2 with q | q
  · rw [if_pos q]; decide
  · rw [if_neg (fun y => by rw [y] at q; exact absurd q.1 (by decide))]; exact q
theorem mkL_ok {D : Dft} {cd : Nat → Nat} {len : Nat} (h : DOK D) (hv : vk cd len) (hh : len = 0 ∨ hg cd len = 1) : LOK (mkL D cd len) := by
  have g := gge_b h
  obtain ⟨o1, o2, o3, o4, o5, o6, o7⟩ := h
  refine ⟨o1.1, o1.2.2.1, o1.2.2.2, o2, o3, fun j hj i hi => ⟨o4 j hj i hi, ?_⟩, fun a b ha hb => (o5 a b ?_ ?_).1, ⟨hv.1, fun q => ?_, hv.2⟩, ?_⟩
  · have hns : dns D j ≤ 7 := (o2 j hj).2
    have hi' : i + 1 < dns D j := hi
    have t1 := o3 j hj i (by omega)
    have t2 := o3 j hj (i + 1) hi'
    have hT := o1.1
    exact (o5 (drt D j i) (drt D j (i + 1)) (by omega) (by omega)).2.2
  · have : a < dT D := ha; omega
  · have : b < dT D := hb; omega
  · have q' : 0 < len := q
    show 1 ≤ hg cd len
    omega
  · exact ways_wyB o1.1 (fun a b ha hb => (o5 a b ha hb).2) g
theorem mkA_ok {a : Abs} {D : Dft} {cd : Nat → Nat} {len : Nat} (hA : AOK a) (h : DOK D) (hv : vk cd len) (hh : len = 0 ∨ hg cd len = 1) : AOK (mkA a D cd len) := by
  refine ⟨mkL_ok h hv hh, ⟨fun k hk => ⟨⟨h.2.2.2.2.2.1, ?_, ?_, ?_, ?_, ?_⟩, ?_, ?_⟩, ?_, fun k hk => absurd hk (Nat.not_lt_zero _), ?_, fun k hk => absurd hk (Nat.not_lt_zero _)⟩, fun q => ?_, ?_, hA.2.2.2.2⟩
  · show (0 : Nat) ≤ 4; omega
  · show (0 : Nat) ≤ 6; omega
  · exact fun k hk => absurd hk (Nat.not_lt_zero _)
  · show (0 : Nat) ≤ 5; omega
  · exact fun k hk => absurd hk (Nat.not_lt_zero _)
  · show (0 : Nat) ≤ 4; omega
  · show (0 : Nat) ≤ 4; omega
  · show (0 : Nat) ≤ 40; omega
  · show (0 : Nat) ≤ 8; omega
  · exact absurd (show false = true from q) (by decide)
  · show (0 : Nat) ≤ 600; omega
theorem r_over {R : Mem} {D : Dft} {cd : Nat → Nat} {len : Nat} (hD : DOK D) (hv : vk cd len) (h : RDf R D) (hw : RWf R cd len) : wp (f_X8_takeOver R) (fun R' => Kr R R' ∧ LdR R' (mkL D cd len) ∧ RB R' (dJ D) (mkB D) ∧ R' 8 0 0 33 = 0 ∧ R' 8 0 0 34 = 0 ∧ R' 8 0 0 54 = 0 ∧ (∀ f, (f < 29 ∨ 34 < f) → f ≠ 54 → R' 8 0 0 f = R 8 0 0 f) ∧ R' 59 = R 59) := by
  obtain ⟨⟨r1, r2, r3, r4, r5, r6⟩, r7, r8, r9, r10⟩ := h
  obtain ⟨o1, o2, o3, o4, o5, o6, o7⟩ := hD
  unfold f_X8_takeOver
  refine wp_bind (r_half (c := 50) (H := 7) rfl (by omega)) ?_
  rintro A1 ⟨F1, h1⟩
  refine wp_bind (r_half (c := 51) (H := 81) rfl (by omega)) ?_
  rintro A2 ⟨F2, h2⟩
  refine wp_bind (r_half (c := 52) (H := 5) rfl (by omega)) ?_
  rintro A3 ⟨F3, h3⟩
  refine wp_bind (r_half (c := 53) (H := 5) rfl (by omega)) ?_
  rintro A4 ⟨F4, h4⟩
  refine wp_bind (r_half (c := 54) (H := 5) rfl (by omega)) ?_
  rintro A5 ⟨F5, h5⟩
  refine wp_bind (r_half (c := 55) (H := 5) rfl (by omega)) ?_
  rintro A6 ⟨F6, h6⟩
  refine wp_bind (r_half (c := 56) (H := 35) rfl (by omega)) ?_
  rintro A7 ⟨F7, h7⟩
  refine wp_bind (r_half (c := 57) (H := 54) rfl (by omega)) ?_
  rintro A8 ⟨F8, h8⟩
  refine wp_bind (r_half (c := 58) (H := 600) rfl (by omega)) ?_
  rintro A9 ⟨F9, h9⟩
  have g50 : ∀ i, i < 7 → A9 50 0 0 i = R 50 0 0 (7 + i) := fun i hi => by
    rw [F9.g (c := 50) (by simp), F8.g (c := 50) (by simp), F7.g (c := 50) (by simp), F6.g (c := 50) (by simp), F5.g (c := 50) (by simp), F4.g (c := 50) (by simp), F3.g (c := 50) (by simp), F2.g (c := 50) (by simp)]; exact h1 i hi
  have g51 : ∀ i, i < 81 → A9 51 0 0 i = R 51 0 0 (81 + i) := fun i hi => by
    rw [F9.g (c := 51) (by simp), F8.g (c := 51) (by simp), F7.g (c := 51) (by simp), F6.g (c := 51) (by simp), F5.g (c := 51) (by simp), F4.g (c := 51) (by simp), F3.g (c := 51) (by simp), h2 i hi, F1.g (c := 51) (by simp)]
  have g52 : ∀ i, i < 5 → A9 52 0 0 i = R 52 0 0 (5 + i) := fun i hi => by
    rw [F9.g (c := 52) (by simp), F8.g (c := 52) (by simp), F7.g (c := 52) (by simp), F6.g (c := 52) (by simp), F5.g (c := 52) (by simp), F4.g (c := 52) (by simp), h3 i hi, F2.g (c := 52) (by simp), F1.g (c := 52) (by simp)]
  have g53 : ∀ i, i < 5 → A9 53 0 0 i = R 53 0 0 (5 + i) := fun i hi => by
    rw [F9.g (c := 53) (by simp), F8.g (c := 53) (by simp), F7.g (c := 53) (by simp), F6.g (c := 53) (by simp), F5.g (c := 53) (by simp), h4 i hi, F3.g (c := 53) (by simp), F2.g (c := 53) (by simp), F1.g (c := 53) (by simp)]
  have g54 : ∀ i, i < 5 → A9 54 0 0 i = R 54 0 0 (5 + i) := fun i hi => by
    rw [F9.g (c := 54) (by simp), F8.g (c := 54) (by simp), F7.g (c := 54) (by simp), F6.g (c := 54) (by simp), h5 i hi, F4.g (c := 54) (by simp), F3.g (c := 54) (by simp), F2.g (c := 54) (by simp), F1.g (c := 54) (by simp)]
  have g55 : ∀ i, i < 5 → A9 55 0 0 i = R 55 0 0 (5 + i) := fun i hi => by
    rw [F9.g (c := 55) (by simp), F8.g (c := 55) (by simp), F7.g (c := 55) (by simp), h6 i hi, F5.g (c := 55) (by simp), F4.g (c := 55) (by simp), F3.g (c := 55) (by simp), F2.g (c := 55) (by simp), F1.g (c := 55) (by simp)]
  have g56 : ∀ i, i < 35 → A9 56 0 0 i = R 56 0 0 (35 + i) := fun i hi => by
    rw [F9.g (c := 56) (by simp), F8.g (c := 56) (by simp), h7 i hi, F6.g (c := 56) (by simp), F5.g (c := 56) (by simp), F4.g (c := 56) (by simp), F3.g (c := 56) (by simp), F2.g (c := 56) (by simp), F1.g (c := 56) (by simp)]
  have g57 : ∀ i, i < 54 → A9 57 0 0 i = R 57 0 0 (54 + i) := fun i hi => by
    rw [F9.g (c := 57) (by simp), h8 i hi, F7.g (c := 57) (by simp), F6.g (c := 57) (by simp), F5.g (c := 57) (by simp), F4.g (c := 57) (by simp), F3.g (c := 57) (by simp), F2.g (c := 57) (by simp), F1.g (c := 57) (by simp)]
  have g58 : ∀ i, i < 600 → A9 58 0 0 i = R 58 0 0 (600 + i) := fun i hi => by
    rw [h9 i hi, F8.g (c := 58) (by simp), F7.g (c := 58) (by simp), F6.g (c := 58) (by simp), F5.g (c := 58) (by simp), F4.g (c := 58) (by simp), F3.g (c := 58) (by simp), F2.g (c := 58) (by simp), F1.g (c := 58) (by simp)]
  have FA : Fr [(50, 0), (51, 0), (52, 0), (53, 0), (54, 0), (55, 0), (56, 0), (57, 0), (58, 0)] R A9 := ((((((((F1.sub (by simp)).tr (F2.sub (by simp))).tr (F3.sub (by simp))).tr (F4.sub (by simp))).tr (F5.sub (by simp))).tr (F6.sub (by simp))).tr (F7.sub (by simp))).tr (F8.sub (by simp))).tr (F9.sub (by simp))
  refine wp_bnd (wp_bnd (wp_bnd (wp_bnd (wp_bnd (wp_bnd (wp_bnd ?_))))))
  obtain ⟨A10, hA10⟩ : ∃ A10, A10 = upd4 (upd4 (upd4 (upd4 (upd4 (upd4 (upd4 A9 8 0 0 29 (A9 50 0 0 1)) 8 0 0 30 0) 8 0 0 31 0) 8 0 0 32 0) 8 0 0 33 0) 8 0 0 34 0) 8 0 0 54 0 := ⟨_, rfl⟩
  rw [← hA10]
  have c10 : ∀ c, c ≠ 8 → A10 c = A9 c := fun c hc => by rw [hA10, u_c hc, u_c hc, u_c hc, u_c hc, u_c hc, u_c hc, u_c hc]
  have f10 : ∀ f, A10 8 0 0 f = if f = 54 then 0 else if f = 34 then 0 else if f = 33 then 0 else if f = 32 then 0 else if f = 31 then 0 else if f = 30 then 0 else if f = 29 then A9 50 0 0 1 else A9 8 0 0 f := fun f => by rw [hA10, u5, u5, u5, u5, u5, u5, u5]
  have F10 : Fr [(8, 0), (50, 0), (51, 0), (52, 0), (53, 0), (54, 0), (55, 0), (56, 0), (57, 0), (58, 0)] R A10 := by
    rw [hA10]
    exact (FA.sub (by simp)).tr (((((((Fr.up (by simp)).tr (Fr.up (by simp))).tr (Fr.up (by simp))).tr (Fr.up (by simp))).tr (Fr.up (by simp))).tr (Fr.up (by simp))).tr (Fr.up (by simp)))
  refine wp_bind (r_ways (T := dT D) (rm := drm D) o1.1 (fun a b ha hb => (o5 a b ha hb).2) ?_ ?_) ?_
  · rw [c10 50 (by omega), g50 0 (by omega)]; exact r1
  · intro x y hx hy
    rw [c10 51 (by omega), g51 _ (by omega)]; exact r7 x y hx hy
  rintro A11 ⟨F11, h11⟩
  have F12 : Fr [(8, 0), (50, 0), (51, 0), (52, 0), (53, 0), (54, 0), (55, 0), (56, 0), (57, 0), (58, 0), (61, 0)] R A11 := (F10.sub (by simp)).tr (F11.sub (by simp))
  have d11 : ∀ c, c ≠ 8 → c ≠ 61 → A11 c 0 = A9 c 0 := fun c h8 h61 => by
    rw [F11.g (c := c) (z := 0) (by simp; omega), c10 c h8]
  have d8 : ∀ f, A11 8 0 0 f = A10 8 0 0 f := fun f => by rw [F11.g (c := 8) (z := 0) (by simp)]
  have hJ := o1.2.2.1
  have hC := o1.2.2.2
  refine wp_some ⟨F12.kr (by simp), ⟨?_, fun j hj => ?_, fun j hj i hi => ?_, fun a b ha hb => ?_, ?_, ?_, fun c hc t ht => ?_, fun j hj => ?_, ?_, fun k hk => ?_, h11, ?_, ?_⟩, ⟨fun j hj => ?_, ?_, ⟨?_, fun k hk => absurd hk (Nat.not_lt_zero _)⟩, ⟨?_, fun k hk => absurd hk (Nat.not_lt_zero _)⟩, ⟨?_, fun k hk => absurd hk (Nat.not_lt_zero _)⟩⟩, ?_, ?_, ?_, fun f hf h54 => ?_, ?_⟩
  · rw [d11 50 (by omega) (by omega), g50 4 (by omega)]; exact r5
  · have hj' : j < dJ D := hj
    rw [d11 55 (by omega) (by omega), g55 j (by omega)]; exact (r8 j hj).2.2.2
  · have hj' : j < dJ D := hj
    have hi' : i < dns D j := hi
    have := o2 j hj'
    rw [d11 56 (by omega) (by omega), g56 _ (by omega), show 35 + (7 * j + i) = 7 * (5 + j) + i by omega]; exact r9 j hj i hi
  · have ha' : a < dT D := ha
    have hb' : b < dT D := hb
    rw [d11 51 (by omega) (by omega), g51 _ (by omega)]; exact r7 a b (by omega) (by omega)
  · rw [d11 50 (by omega) (by omega), g50 0 (by omega)]; exact r1
  · rw [d11 50 (by omega) (by omega), g50 5 (by omega)]; exact r6
  · have hc' : c < dC D := hc
    rw [d11 57 (by omega) (by omega), g57 _ (by omega), show 54 + (9 * c + t) = 9 * (6 + c) + t by omega]; exact r10 c t hc ht
  · have hj' : j < dJ D := hj
    rw [d11 52 (by omega) (by omega), d11 54 (by omega) (by omega), g52 j (by omega), g54 j (by omega)]; exact ⟨(r8 j hj).1, (r8 j hj).2.2.1⟩
  · rw [d11 50 (by omega) (by omega), g50 6 (by omega)]; exact hw.1
  · have hk' : k < len := hk
    have := hv.1
    rw [d11 58 (by omega) (by omega), g58 k (by omega)]; exact hw.2 k hk
  · rw [d11 50 (by omega) (by omega), g50 3 (by omega)]; exact r4
  · rw [d11 50 (by omega) (by omega), g50 2 (by omega)]; exact r3
  · rw [d11 53 (by omega) (by omega), g53 j (by omega)]; exact (r8 j hj).2.1
  · rw [d8, f10, if_neg (by omega), if_neg (by omega), if_neg (by omega), if_neg (by omega), if_neg (by omega), if_neg (by omega), if_pos rfl, g50 1 (by omega)]; exact r2
  · rw [d8, f10, if_neg (by omega), if_neg (by omega), if_neg (by omega), if_neg (by omega), if_neg (by omega), if_pos rfl]; rfl
  · rw [d8, f10, if_neg (by omega), if_neg (by omega), if_neg (by omega), if_neg (by omega), if_pos rfl]; rfl
  · rw [d8, f10, if_neg (by omega), if_neg (by omega), if_neg (by omega), if_pos rfl]; rfl
  · rw [d8, f10, if_neg (by omega), if_neg (by omega), if_pos rfl]
  · rw [d8, f10, if_neg (by omega), if_pos rfl]
  · rw [d8, f10, if_pos rfl]
  · rw [d8, f10, if_neg h54, if_neg (by omega), if_neg (by omega), if_neg (by omega), if_neg (by omega), if_neg (by omega), if_neg (by omega), FA.g (c := 8) (z := 0) (by simp)]
  · rw [F12.gc (c := 59) (fun z => by simp)]
