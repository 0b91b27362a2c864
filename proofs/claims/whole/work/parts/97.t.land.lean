/-! pairs of calls: land -/
section
variable {I R : Mem} {P : PMem} {l N : Nat} {a : Abs}
theorem GC_new {I' I2 : Mem} {D : Dft} {cd : Nat → Nat} {len : Nat} (hA : AOK a) (hC : GC I P l a) {R' : Mem} {b e : Nat} (A : Al (upd4 I 7 0 0 1 0, R, 1 - l, N, ytb a) I' R' b e 0 D cd len) (F : Fr [(30, 1 - l), (32, 1 - l)] I' I2)
    (h30 : ∀ x y, x < dT D → y < dT D → I2 30 (1 - l) x y = fw1 (dT D) 0 (dT D) (v0w (drm D)) x y) (h32 : ∀ x y, x < dT D → y < dT D → I2 32 (1 - l) x y = nww (fw1 (dT D) 0 (dT D) (v0w (drm D))) (gge D) x y) :
    wp (f_X0_beginAnew 0 (1 - l) (upd4 I2 7 0 0 11 (-1))) (fun I3 => GC (upd4 (upd4 I3 7 0 0 7 0) 7 0 0 10 0) (updP (updP (updP P 5 0 0 4 (1 - l)) 7 0 0 2 (1 - l)) 7 0 0 3 l) (1 - l) (mkA a D cd len) ∧ Kc I (upd4 (upd4 I3 7 0 0 7 0) 7 0 0 10 0)) := by
  obtain ⟨⟨kc, kr⟩, _, _, ⟨⟨⟨c1, c2, c3, c4, c5, c6⟩, c7, c8, c9, c10⟩, _, ⟨o1, o2, o3, o4, o5, o6, o7⟩⟩, ⟨w1, w2⟩, _, vk'⟩ := A
  obtain ⟨⟨p1, p2, p3⟩, _, ⟨_, _, _, x4⟩, _⟩ := hC
  have c1' : I' 3 (1 - l) 0 0 = nI (dT D) := c1
  have c2' : I' 3 (1 - l) 0 1 = dinn D := c2
  have c3' : I' 3 (1 - l) 0 2 = nI (dnr D) := c3
  have c4' : I' 3 (1 - l) 0 3 = dgg D := c4
  have c5' : I' 3 (1 - l) 0 7 = nI (dJ D) := c5
  have c6' : I' 3 (1 - l) 0 13 = nI (dC D) := c6
  have n3 : ∀ c, c ≠ 30 → c ≠ 32 → I2 c = I' c := fun c h h' => F.gc (fun z => by simp; omega)
  have eN : ∀ c, c ≠ 5 → c ≠ 7 → ¬ tCg c → c ≠ 30 → c ≠ 32 → I2 c = I c := fun c h5 h7 ht h30 h32 => by
    rw [n3 c h30 h32, KC_c kc h5 ht]
    show upd4 I 7 0 0 1 0 c = I c
    exact u_c h7
  have i7 : ∀ f, I2 7 0 0 f = upd4 I 7 0 0 1 0 7 0 0 f := fun f => by rw [n3 7 (by omega) (by omega), KC_c kc (by omega) (by unfold tCg; omega)]; rfl
  unfold f_X0_beginAnew
  refine wp_gd (by decide) (wp_bnd (wp_bnd (wp_bnd (wp_bnd (wp_bnd (wp_bnd (wp_bnd (wp_some ?_))))))))
  obtain ⟨B1, hB1⟩ : ∃ B1, B1 = updR (upd4 I2 7 0 0 11 (-1)) 9 0 0 (va_cpy (upd4 I2 7 0 0 11 (-1) 34 (1 - l) 0) (upd4 I2 7 0 0 11 (-1) 9 0 0) (0 : Int32).toNatClampNeg (0 : Int32).toNatClampNeg (5 : Int32).toNatClampNeg) := ⟨_, rfl⟩
  rw [← hB1]
  obtain ⟨B2, hB2⟩ : ∃ B2, B2 = upd4 (upd4 (upd4 (upd4 (upd4 (upd4 B1 0 0 0 1 (B1 3 (1 - l) 0 1)) 6 (5 * 0 + 0) 0 3 0) 6 (5 * 0 + 1) 0 3 0) 6 (5 * 0 + 2) 0 3 0) 6 (5 * 0 + 3) 0 3 0) 6 (5 * 0 + 4) 0 3 0 := ⟨_, rfl⟩
  rw [← hB2]
  have b1c : ∀ c, c ≠ 7 → c ≠ 9 → B1 c = I2 c := fun c h7 h9 => by rw [hB1, upR_c h9, u_c h7]
  have b1d : ∀ j, j < 5 → B1 9 0 0 j = I2 34 (1 - l) 0 j := fun j hj => by
    rw [hB1, upR_at, pk_cpy_in (by show (0 : Nat) ≤ j; omega) (by show j < 0 + 5; omega), u_c (by omega)]
    show I2 34 (1 - l) 0 (0 + (j - 0)) = _
    rw [Nat.zero_add, Nat.sub_zero]
  have b17 : B1 7 = upd4 I2 7 0 0 11 (-1) 7 := by rw [hB1, upR_c (by omega)]
  have b2c : ∀ c, c ≠ 0 → c ≠ 6 → B2 c = B1 c := fun c h0 h6 => by rw [hB2, u_c h6, u_c h6, u_c h6, u_c h6, u_c h6, u_c h0]
  have b2c' : ∀ c, c ≠ 0 → c ≠ 6 → c ≠ 7 → c ≠ 9 → B2 c = I2 c := fun c h0 h6 h7 h9 => (b2c c h0 h6).trans (b1c c h7 h9)
  have b26 : ∀ z, z < 5 → B2 6 z 0 3 = 0 := fun z hz => by
    have : z = 0 ∨ z = 1 ∨ z = 2 ∨ z = 3 ∨ z = 4 := by omega
    rw [hB2]
    rcases this with rfl | rfl | rfl | rfl | rfl
    · rw [u_ne (by omega), u_ne (by omega), u_ne (by omega), u_ne (by omega)]; exact u_at
    · rw [u_ne (by omega), u_ne (by omega), u_ne (by omega)]; exact u_at
    · rw [u_ne (by omega), u_ne (by omega)]; exact u_at
    · rw [u_ne (by omega)]; exact u_at
    · exact u_at
  have b20 : B2 0 0 0 1 = dinn D := by
    rw [hB2, u_c (by omega), u_c (by omega), u_c (by omega), u_c (by omega), u_c (by omega), u_at, b1c 3 (by omega) (by omega), n3 3 (by omega) (by omega)]; exact c2'
  have f7 : ∀ f, upd4 (upd4 B2 7 0 0 7 0) 7 0 0 10 0 7 0 0 f = if f = 10 then 0 else if f = 7 then 0 else if f = 11 then -1 else if f = 1 then 0 else I 7 0 0 f := fun f => by
    rw [u5, u5, b2c 7 (by omega) (by omega), b17, u5, i7, u5]
  have fc : ∀ c, c ≠ 7 → upd4 (upd4 B2 7 0 0 7 0) 7 0 0 10 0 c = B2 c := fun c hc => by rw [u_c hc, u_c hc]
  have fd : ∀ c, c ≠ 0 → c ≠ 6 → c ≠ 7 → c ≠ 9 → c ≠ 30 → c ≠ 32 → upd4 (upd4 B2 7 0 0 7 0) 7 0 0 10 0 c = I' c := fun c h0 h6 h7 h9 h30 h32 => by rw [fc c h7, b2c' c h0 h6 h7 h9, n3 c h30 h32]
  have cr : ∀ z, z < 5 → ∀ a1 a2 a3 : Nat → Int32, cRw (upd4 (upd4 B2 7 0 0 7 0) 7 0 0 10 0) z 0 a1 a2 a3 := fun z hz a1 a2 a3 =>
    ⟨by rw [fc 6 (by omega), b26 z hz]; rfl, Nat.zero_le _, fun k hk => absurd hk (Nat.not_lt_zero _)⟩
  refine ⟨⟨⟨?_, by omega, ?_⟩, ⟨⟨?_, o1.2.2.1, fun j hj => ?_, fun j hj i hi => ?_, o1.1, fun a ha b hb => ?_⟩, ?_, ?_, fun c hc t ht => ?_, fun j hj => ?_, ?_, fun k hk => ?_, fun a b ha hb => ?_, ?_, ?_⟩, ⟨⟨fun j hj => ?_, ?_, cr 0 (by omega) _ _ _, cr 1 (by omega) _ _ _, cr 2 (by omega) _ _ _⟩, cr 3 (by omega) _ _ _, cr 4 (by omega) _ _ _, fun k hk => ?_⟩, ?_, fun q => absurd (show false = true from q) (by decide), ⟨?_, fun k hk => absurd hk (Nat.not_lt_zero _)⟩, ?_, Or.inl ?_⟩, fun c hc => ?_⟩
  · simp [updP]
  · have : updP (updP (updP P 5 0 0 4 (1 - l)) 7 0 0 2 (1 - l)) 7 0 0 3 l 7 0 0 3 = l := by simp [updP]
    rw [this]; omega
  · rw [fd 3 (by omega) (by omega) (by omega) (by omega) (by omega) (by omega)]; exact c5'
  · rw [fd 36 (by omega) (by omega) (by omega) (by omega) (by omega) (by omega)]; exact ⟨(c8 j hj).2.2.2, o2 j hj⟩
  · rw [fd 38 (by omega) (by omega) (by omega) (by omega) (by omega) (by omega)]; exact ⟨c9 j hj i hi, o3 j hj i hi⟩
  · have ha' : a < dT D := ha
    have hb' : b < dT D := hb
    rw [fd 28 (by omega) (by omega) (by omega) (by omega) (by omega) (by omega)]; exact c7 a b (by omega) (by omega)
  · rw [fd 3 (by omega) (by omega) (by omega) (by omega) (by omega) (by omega)]; exact c1'
  · rw [fd 3 (by omega) (by omega) (by omega) (by omega) (by omega) (by omega)]; exact c6'
  · have hc' : c < dC D := hc
    rw [fd 40 (by omega) (by omega) (by omega) (by omega) (by omega) (by omega)]; exact c10 c t (by omega) ht
  · rw [fd 33 (by omega) (by omega) (by omega) (by omega) (by omega) (by omega), fd 35 (by omega) (by omega) (by omega) (by omega) (by omega) (by omega)]; exact ⟨(c8 j hj).1, (c8 j hj).2.2.1⟩
  · rw [fd 4 (by omega) (by omega) (by omega) (by omega) (by omega) (by omega)]; exact w1
  · rw [fd 41 (by omega) (by omega) (by omega) (by omega) (by omega) (by omega)]; exact w2 k hk
  · rw [fc 30 (by omega), fc 32 (by omega), b2c' 30 (by omega) (by omega) (by omega) (by omega), b2c' 32 (by omega) (by omega) (by omega) (by omega)]; exact ⟨h30 a b ha hb, h32 a b ha hb⟩
  · rw [fd 3 (by omega) (by omega) (by omega) (by omega) (by omega) (by omega), c4']; rfl
  · rw [fd 3 (by omega) (by omega) (by omega) (by omega) (by omega) (by omega)]; exact c3'
  · have hj' : j < dJ D := hj
    rw [fc 9 (by omega), b2c 9 (by omega) (by omega), b1d j (by omega), n3 34 (by omega) (by omega)]; exact (c8 j hj).2.1
  · rw [fc 0 (by omega)]; exact b20
  · rw [fc 10 (by omega), b2c' 10 (by omega) (by omega) (by omega) (by omega), eN 10 (by omega) (by omega) (by unfold tCg; omega) (by omega) (by omega)]; exact x4 k hk
  · rw [f7, if_neg (by omega), if_pos rfl]; rfl
  · rw [f7, if_neg (by omega), if_neg (by omega), if_neg (by omega), if_pos rfl]; rfl
  · rw [f7, if_neg (by omega), if_neg (by omega), if_pos rfl]; rfl
  · rw [f7, if_pos rfl]
  · rw [fc c (by omega), b2c' c (by omega) (by omega) (by omega) (by omega)]; exact eN c (by omega) (by omega) (by unfold tCg; omega) (by omega) (by omega)
theorem GR_new {R' : Mem} {D : Dft} {cd : Nat → Nat} {len : Nat} (hR : GR R a) {I0 I' : Mem} {b e : Nat} (A : Al (I0, R6 R (nI N), 1 - l, N, ytb a) I' R' b e 0 D cd len) :
    wp (f_X8_takeOver R') (fun R2 => GR R2 (mkA a D cd len) ∧ Kr R R2 ∧ R2 8 0 0 2 = 0) := by
  obtain ⟨⟨kc, kr⟩, _, _, ⟨_, rd, o⟩, _, rw', vk'⟩ := A
  obtain ⟨_, ⟨_, _, _, _, y5⟩, _⟩ := hR
  refine wp_mono (r_over o vk' rd rw') ?_
  rintro R2 ⟨k2, q1, q2, q3, q4, q5, q6, q7⟩
  have g59 : R2 59 = R 59 := by
    rw [q7, kr.1 59 (by omega) (by omega)]
    show R6 R (nI N) 59 = R 59
    exact R6_c (by omega)
  have r6f : ∀ f, ¬ (15 ≤ f ∧ f ≤ 22) → R' 8 0 0 f = R6 R (nI N) 8 0 0 f := fun f hf => KR_n kr (by unfold tRg; omega)
  refine ⟨⟨q1, ⟨q2, ?_, fun k hk => absurd hk (Nat.not_lt_zero _), ⟨?_, fun k hk => absurd hk (Nat.not_lt_zero _)⟩, fun k hk => ?_⟩, ?_, fun q => absurd (show false = true from q) (by decide), ⟨?_, fun k hk => absurd hk (Nat.not_lt_zero _)⟩, ?_⟩, fun c hc hc2 => ?_, ?_⟩
  · rw [q3]; rfl
  · rw [q4]; rfl
  · rw [g59]; exact y5 k hk
  · rw [q5]; rfl
  · rw [q6 14 (by omega) (by omega), r6f 14 (by omega)]
    unfold R6; rw [u5, if_neg (by omega), u5, if_neg (by omega), u5, if_neg (by omega), u5, if_neg (by omega), u5, if_pos rfl]; rfl
  · rw [q6 23 (by omega) (by omega), r6f 23 (by omega)]
    unfold R6; rw [u5, if_pos rfl]; rfl
  · rw [k2 c hc hc2, kr.1 c hc (by omega)]; exact R6_c hc
  · rw [q6 2 (by omega) (by omega), r6f 2 (by omega)]
    unfold R6; rw [u5, if_neg (by omega), u5, if_neg (by omega), u5, if_neg (by omega), u5, if_neg (by omega), u5, if_neg (by omega), u5, if_pos rfl]
theorem L_land (hA : AOK a) (hC : GC I P l a) (hR : GR R a) (hN : N ≤ ytn a) :
    ∃ I' P' R' v, f_X7_land I P (nI N) = some (Sum.inl (v, I', P')) ∧ f_X8_land R (nI N) = some (v, R') ∧ R' 8 0 0 2 = 0 ∧ Kc I I' ∧ Kr R R' ∧ ∃ l' a', AOK a' ∧ GC I' P' l' a' ∧ GR R' a' := by
  have h6 := hA.2.2.2.1
  obtain ⟨I', R', e1, e2, q⟩ := L_land0 hA hC hR hN
  have er : f_X8_land R (nI N) = f_X8_land_135 R' := (r_land1 hR.2.2.2.2.1.1 h6 hN).trans e2
  have P3 : P 7 0 0 3 = 1 - l := hC.1.2.2
  have hl : l < 2 := hC.1.2.1
  have t1 : I 7 0 0 1 = nI (ytn a) := hC.2.2.2.2.2.1.1
  have ec : f_X7_land I P (nI N) = (f_X5_readLand_77 (1 - l) I' (updP P 5 0 0 4 (1 - l))).bind fun y1 =>
      bnd (upd4 y1.1 7 0 0 11 (y1.1 5 0 0 1)) fun I2' =>
      if (I2' 5 0 0 0) = 0 then (gd (decide ((y1.2 7 0 0 2) < 2)) <|
      gd (decide ((y1.2 7 0 0 3) < 2)) <|
      bnd (updP y1.2 7 0 0 2 (y1.2 7 0 0 3)) fun P1' =>
      bnd (updP P1' 7 0 0 3 (y1.2 7 0 0 2)) fun P2' =>
      gd (decide ((P2' 7 0 0 2) < 2)) <|
      (f_X0_beginAnew 0 (P2' 7 0 0 2) I2').bind fun y2 =>
      bnd (upd4 y2 7 0 0 7 (0 : Int32)) fun I3' =>
      bnd (upd4 I3' 7 0 0 10 (0 : Int32)) fun I4' =>
      some (Sum.inl ((0 : Int32), I4', P2'))) else (bnd (upd4 I2' 10 0 0 0 ((I2' 10 0 0 0) + (1 : Int32))) fun I5' =>
      some (Sum.inl ((I5' 5 0 0 0), I5', y1.2))) := by
    unfold f_X7_land
    rw [if_neg (nI_pos (by omega)), if_pos (by rw [t1]; exact nI_le hN (by omega)), bnd_e, P3, gd_t (dlt (by omega)), e1]
  rcases q with dd | ⟨b, e, D, cd, len, A, hNP, hh⟩
  · obtain ⟨v, p, hv, a1, a2, a3, a4, g1, g2, g3, g4, g5, g6⟩ := Dd_out hA hC hR hN dd
    have x0 : ¬ I' 5 0 0 0 = 0 := by rw [a1]; exact hv
    have y0 : ¬ R' 8 0 0 21 = 0 := by rw [a2]; exact hv
    refine ⟨_, _, _, v, ?_, ?_, g6, g4, g5, l, _, g3, g1, g2⟩
    · rw [ec]
      unfold f_X5_readLand_77
      rw [if_neg x0]
      generalize hy : (I', updP P 5 0 0 4 (1 - l)) = y
      have y1 : y.1 = I' := by rw [← hy]
      have y2 : y.2 = updP P 5 0 0 4 (1 - l) := by rw [← hy]
      rw [Option.bind_some, bnd_e, y1, y2, if_neg (by rw [u_c (by omega)]; exact x0), bnd_e, a3, u_c (show (5 : Nat) ≠ 10 by omega), u_c (show (5 : Nat) ≠ 7 by omega), a1]
    · rw [er]
      unfold f_X8_land_135
      rw [if_neg y0, bnd_e, bnd_e, a4, u_c (show (8 : Nat) ≠ 59 by omega), u5, if_neg (by omega), a2]
  · have o := A.2.2.2.1.2.2
    have vk' := A.2.2.2.2.2.2
    have hX1 : I' 3 (1 - l) 0 0 = nI (dT D) := A.2.2.2.1.1.1.1
    have hX3 : I' 3 (1 - l) 0 3 = dgg D := A.2.2.2.1.1.1.2.2.2.1
    obtain ⟨I2, w1, F, h30, h32⟩ := c_ways (z := 1 - l) (I := I') (gg := gge D) o.1.1 (fun x y hx hy => (o.2.2.2.2.1 x y hx hy).2) hX1 (by rw [hX3]; rfl) A.2.2.2.1.1.2.1
    obtain ⟨I3, w2, gc, kc⟩ := GC_new hA hC A F h30 h32
    obtain ⟨R2, w3, gr, kr, c0⟩ := GR_new hR A
    have i5 : I2 5 = I' 5 := F.gc (fun z => by simp)
    refine ⟨_, _, R2, 0, ?_, ?_, c0, kc, kr, 1 - l, _, mkA_ok hA o vk' hh, gc, gr⟩
    · rw [ec]
      unfold f_X5_readLand_77
      have pp : updP P 5 0 0 4 (1 - l) 5 0 0 4 = 1 - l := by simp [updP]
      have p72 : updP P 5 0 0 4 (1 - l) 7 0 0 2 = l := by simp [updP]; exact hC.1.1
      have p73 : updP P 5 0 0 4 (1 - l) 7 0 0 3 = 1 - l := by simp [updP]; exact P3
      have p2 : updP (updP (updP P 5 0 0 4 (1 - l)) 7 0 0 2 (1 - l)) 7 0 0 3 l 7 0 0 2 = 1 - l := by simp [updP]
      rw [if_pos (Al_c A), pp, gd_t (dlt (by omega)), w1, Option.bind_some]
      generalize hy : (I2, updP P 5 0 0 4 (1 - l)) = y
      have y1 : y.1 = I2 := by rw [← hy]
      have y2 : y.2 = updP P 5 0 0 4 (1 - l) := by rw [← hy]
      rw [Option.bind_some, bnd_e, y1, y2, if_pos (by rw [u_c (by omega), i5]; exact Al_c A), p72, p73, gd_t (dlt hl), gd_t (dlt (by omega)), bnd_e, bnd_e, p2, gd_t (dlt (by omega)), i5, A.2.2.1.1.2.1, w2, Option.bind_some, bnd_e, bnd_e]
    · rw [er]
      unfold f_X8_land_135
      rw [if_pos (Al_r A), w3, Option.bind_some]
theorem p_land {O : Nat → Int64} {D : Bool} {n : Nat} (h : G I P) (v1 : Int32) : Pr (f_L_land I P O D n v1) (fun I => f_X8_land I v1) n := by
  obtain ⟨l, a, hA, hC, hR⟩ := h
  have h6 := hA.2.2.2.1
  have t1 : I 7 0 0 1 = nI (ytn a) := hC.2.2.2.2.2.1.1
  have t14 : I 8 0 0 14 = nI (ytn a) := hR.2.2.2.2.1.1
  have bad : (v1 < 0 ∨ ¬ v1 ≤ nI (ytn a)) → Pr (f_L_land I P O D n v1) (fun I => f_X8_land I v1) n := by
    intro q
    refine pr_no (e := 1) (n1 := n + 1) (I1 := I) (P1 := P) (O1 := O) (D1 := D) (l := l) (a := a) ?_ (by decide) (Nat.le_refl _) hA hC ?_
    · unfold f_L_land f_X7_land f_X7_land_12
      rcases q with q | q
      · rw [if_pos q]; rfl
      · by_cases q2 : v1 < 0
        · rw [if_pos q2]; rfl
        · rw [if_neg q2, if_neg (by rw [t1]; exact q)]; rfl
    · have rf := r_fail hR 0 1
      have fin : wp (f_X8_land_17 (upd4 I 8 0 0 2 0)) (fun w => w.2 8 0 0 2 = 1 ∧ GR w.2 a ∧ Kr I w.2) := by
        unfold f_X8_land_17
        refine wp_bind rf ?_
        rintro y ⟨_, y2, y3, y4⟩
        exact wp_some ⟨y2, y3, y4⟩
      show wp (f_X8_land I v1) _
      unfold f_X8_land
      rw [bnd_e]
      rcases q with q | q
      · rw [if_pos q]; exact fin
      · by_cases q2 : v1 < 0
        · rw [if_pos q2]; exact fin
        · rw [if_neg q2, if_neg (by rw [u5, if_neg (by omega), t14]; exact q)]; exact fin
  by_cases q1 : v1 < 0
  · exact bad (Or.inl q1)
  by_cases q2 : v1 ≤ nI (ytn a)
  · obtain ⟨N, hN, rfl⟩ : ∃ N, N ≤ ytn a ∧ v1 = nI N := nI_of2 (M := nI (ytn a)) (nI_toInt (by omega)) q1 q2
    obtain ⟨I', P', R', v, e1, _, _, k1, _⟩ := L_land hA hC hR hN
    obtain ⟨I2, P2, R2, v2, f1, f2, f3, f4, f5, l', a', g1, g2, g3⟩ := L_land (R := I') hA hC (GR_k hR k1) hN
    have ee := e1.symm.trans f1
    simp only [Option.some.injEq, Sum.inl.injEq, Prod.mk.injEq] at ee
    obtain ⟨rfl, rfl, rfl⟩ := ee
    refine pr_ok (v := v) (n1 := n) (I1 := I') (P1 := P') (O1 := vp_updL O 0 v.toInt64) (D1 := D) (l := l') (a := a') ?_ uL0 (Nat.le_succ _) g1 g2 ?_
    · unfold f_L_land
      rw [e1]; rfl
    · exact ⟨_, f2, rfl, f3, g3, f5⟩
  · exact bad (Or.inr q2)
end
