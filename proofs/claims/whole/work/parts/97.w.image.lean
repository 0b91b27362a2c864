/-! pairs of calls: image, restore (end) -/
def imA (a : Abs) : Abs := (yL a, yE a, true, yE a, ytn a, ytb a, yfp a)
def reA (a : Abs) : Abs := (yL a, yV a, yhi a, yV a, ytn a, ytb a, yfp a)
section
variable {I : Mem} {P : PMem} {l : Nat} {a : Abs}
theorem p_image (h : G I P) : wp (f_X7_image I) (fun y => wp (f_X8_image y) (fun w => G w P)) := by
  obtain ⟨l, a, hA, hC, hR⟩ := h
  have hJ := hA.1.2.1
  have hX := hA.2.1
  obtain ⟨p, c1, x, c3, c4, c5, c6, c7⟩ := hC
  unfold f_X7_image
  refine wp_bind (c_copy (z0 := 1) (z1 := 0) (by omega) hJ x) ?_
  rintro I1 ⟨b1, b0, g1⟩
  refine wp_bnd (wp_some ?_)
  obtain ⟨I2, hI2⟩ : ∃ I2, I2 = upd4 I1 7 0 0 7 1 := ⟨_, rfl⟩
  rw [← hI2]
  have g2 : ∀ c, c ≠ 7 → I2 c = I1 c := fun c hc => by rw [hI2, u_c hc]
  have g3 : ∀ c, ¬ c ∈ [0, 6, 7, 9, 10, 44, 45, 46] → I2 c = I c := fun c hc => by
    simp only [List.mem_cons, List.not_mem_nil, or_false, not_or] at hc
    rw [g2 c hc.2.2.1, g1 c (by simp; omega)]
  have f7 : ∀ f, f ≠ 7 → I2 7 0 0 f = I 7 0 0 f := fun f hf => by rw [hI2, u5, if_neg hf, g1 7 (by simp)]
  have eX : ∀ b, BxC I1 b (lJ (yL a)) (yE a) → BxC I2 b (lJ (yL a)) (yE a) := fun b h => by
    obtain ⟨w1, w2, w3, w4⟩ := h
    have e : ∀ c, c ∈ [0, 6, 9, 44, 45, 46] → I2 c = I1 c := fun c hc => g2 c (by simp at hc; omega)
    have e' : ∀ c, c ∈ [6, 44, 45, 46] → I2 c = I1 c := fun c hc => g2 c (by simp at hc; omega)
    exact ⟨CB_eq w1 e, cRw_eq w2 e', cRw_eq w3 e', fun k hk => by rw [g2 10 (by omega)]; exact w4 k hk⟩
  have kc : Kc I I2 := fun c hc => g3 c (by simp; omega)
  have hC2 : GC I2 P l (imA a) := by
    refine ⟨p, CL_eq c1 (fun c hc => by rw [g3 c (by simp at hc ⊢; omega)]), eX 0 b0, by rw [hI2, u5, if_pos rfl]; rfl, fun _ => eX 1 b1, ?_, by rw [f7 11 (by omega)]; exact c6, ?_⟩
    · rw [f7 1 (by omega), g3 47 (by simp)]; exact c5
    · rw [f7 10 (by omega)]
      exact c7.imp id (fun h => ⟨h.1, stl_eq h.2 (fun c hc => g3 c (by simp at hc ⊢; omega)) (by rw [g3 3 (by simp)]) (by rw [g3 36 (by simp)]) rfl⟩)
  have hR2 := GR_k hR kc
  obtain ⟨q1, ⟨y1, y2, y3, y4, y5⟩, q3, q4, q5, q6⟩ := hR2
  unfold f_X8_image
  refine wp_bnd (wp_bnd (wp_bnd (wp_bnd ?_)))
  obtain ⟨R1, hR1⟩ : ∃ R1, R1 = upd4 (upd4 (upd4 (upd4 I2 8 0 0 2 0) 8 0 0 54 1) 8 0 0 55 (upd4 (upd4 I2 8 0 0 2 0) 8 0 0 54 1 8 0 0 33)) 8 0 0 56 (upd4 (upd4 (upd4 I2 8 0 0 2 0) 8 0 0 54 1) 8 0 0 55 (upd4 (upd4 I2 8 0 0 2 0) 8 0 0 54 1 8 0 0 33) 8 0 0 34) := ⟨_, rfl⟩
  rw [← hR1, n_0]
  have rc : ∀ c, c ≠ 8 → R1 c = I2 c := fun c hc => by rw [hR1, u_c hc, u_c hc, u_c hc, u_c hc]
  have r8 : ∀ f, f ≠ 2 → f ≠ 54 → f ≠ 55 → f ≠ 56 → R1 8 0 0 f = I2 8 0 0 f := fun f h2 h54 h55 h56 => by rw [hR1, u5, if_neg h56, u5, if_neg h55, u5, if_neg h54, u5, if_neg h2]
  have r54 : R1 8 0 0 54 = 1 := by rw [hR1, u5, if_neg (by omega), u5, if_neg (by omega), u5, if_pos rfl]
  have r55 : R1 8 0 0 55 = nI (xna (yE a)) := by rw [hR1, u5, if_neg (by omega), u5, if_pos rfl, u5, if_neg (by omega), u5, if_neg (by omega)]; exact y2
  have r56 : R1 8 0 0 56 = nI (xsn (yE a)) := by rw [hR1, u5, if_pos rfl, u5, if_neg (by omega), u5, if_neg (by omega), u5, if_neg (by omega)]; exact y4.1
  have rb1 : RB R1 (lJ (yL a)) (xB (yE a)) := by
    unfold RB rR at y1 ⊢
    rw [rc 53 (by omega), rc 62 (by omega), rc 63 (by omega), rc 64 (by omega), r8 29 (by omega) (by omega) (by omega) (by omega), r8 30 (by omega) (by omega) (by omega) (by omega), r8 31 (by omega) (by omega) (by omega) (by omega), r8 32 (by omega) (by omega) (by omega) (by omega)]
    exact y1
  have hB := hX.1 _ (Nat.le_refl _)
  refine wp_bind (r_pack (c := 80) (q := 0) (Or.inr rfl) (by decide) R1) ?_
  rintro A1 ⟨F1, _, pv⟩
  have pk := pkv_pkd (B := xB (yE a)) hJ ⟨hB.2.1, hB.1.2.1, hB.2.2⟩ rb1 pv
  refine wp_bind (r_be (c0 := 81) (c1 := 65) (n := 1800) rfl rfl (by omega) (by omega)) ?_
  rintro A2 ⟨F2, h2⟩
  refine wp_bind (r_be (c0 := 82) (c1 := 77) (n := 8) rfl rfl (by omega) (by omega)) ?_
  rintro A3 ⟨F3, h3⟩
  refine wp_bind (r_be (c0 := 83) (c1 := 78) (n := 8) rfl rfl (by omega) (by omega)) ?_
  rintro A4 ⟨F4, h4⟩
  refine wp_bind (r_be (c0 := 84) (c1 := 79) (n := 8) rfl rfl (by omega) (by omega)) ?_
  rintro A5 ⟨F5, h5⟩
  refine wp_bind (r_be (c0 := 85) (c1 := 59) (n := 3) rfl rfl (by omega) (by omega)) ?_
  rintro A6 ⟨F6, h6⟩
  have F : Fr [(80, 0), (81, 0), (82, 0), (83, 0), (84, 0), (85, 0)] R1 A6 := (((((F1.sub (by simp)).tr (F2.sub (by simp))).tr (F3.sub (by simp))).tr (F4.sub (by simp))).tr (F5.sub (by simp))).tr (F6.sub (by simp))
  have ac : ∀ c, c < 80 → A6 c = R1 c := fun c hc => F.gc (fun z => by simp; omega)
  have kr : Kr I2 A6 := fun c h8 hc => by rw [ac c (by omega), rc c h8]
  refine wp_some ⟨l, imA a, ⟨hA.1, hA.2.1, fun _ => hA.2.1, hA.2.2.2.1, hA.2.2.2.2⟩, GC_k hC2 kr, LdR_eq hA.1 q1 (fun c i hc => by rw [ac c (by omega), rc c (by omega)]), ?_, ?_, fun _ => ⟨?_, ?_, fun k hk => ?_, ⟨?_, fun k hk => ⟨?_, ?_, ?_⟩⟩, fun k hk => ?_⟩, ?_, ?_⟩
  · refine ⟨?_, ?_, ?_, ?_, ?_⟩
    · unfold RB rR at rb1 ⊢
      rw [ac 53 (by omega), ac 62 (by omega), ac 63 (by omega), ac 64 (by omega), ac 8 (by omega)]; exact rb1
    · rw [ac 8 (by omega), r8 33 (by omega) (by omega) (by omega) (by omega)]; exact y2
    · unfold pkd at y3 ⊢; rw [ac 65 (by omega), rc 65 (by omega)]; exact y3
    · unfold rSn at y4 ⊢; rw [ac 8 (by omega), r8 34 (by omega) (by omega) (by omega) (by omega), ac 77 (by omega), ac (77 + 1) (by omega), ac (77 + 2) (by omega), rc 77 (by omega), rc (77 + 1) (by omega), rc (77 + 2) (by omega)]; exact y4
    · rw [ac 59 (by omega), rc 59 (by omega)]; exact y5
  · rw [ac 8 (by omega), r54]; rfl
  · have e : A6 80 0 = A1 80 0 := by rw [F6.g (c := 80) (by simp), F5.g (c := 80) (by simp), F4.g (c := 80) (by simp), F3.g (c := 80) (by simp), F2.g (c := 80) (by simp)]
    unfold pkd at pk ⊢
    rw [e]; exact pk
  · rw [ac 8 (by omega)]; exact r55
  · have hk' : k < xna (yE a) := hk
    have hna := hX.2.1
    have hk2 := hX.1 k (by omega)
    refine pkd_x (I := I2) (c := 65) hJ ⟨hk2.2.1, hk2.1.2.1, hk2.2.2⟩ (y3 k hk) (fun z hz => ?_)
    rw [F6.g (c := 81) (by simp), F5.g (c := 81) (by simp), F4.g (c := 81) (by simp), F3.g (c := 81) (by simp), h2 _ (by omega), F1.g (c := 65) (by simp), rc 65 (by omega)]
  · rw [ac 8 (by omega)]; exact r56
  · have hk' : k < xsn (yE a) := hk
    have h8 := hX.2.2.2.1
    rw [F6.g (c := 82) (by simp), F5.g (c := 82) (by simp), F4.g (c := 82) (by simp), h3 k (by omega), F2.g (c := 77) (by simp), F1.g (c := 77) (by simp), rc 77 (by omega)]; exact (y4.2 k hk).1
  · have hk' : k < xsn (yE a) := hk
    have h8 := hX.2.2.2.1
    show A6 83 0 0 k = _
    rw [F6.g (c := 83) (by simp), F5.g (c := 83) (by simp), h4 k (by omega), F3.g (c := 78) (by simp), F2.g (c := 78) (by simp), F1.g (c := 78) (by simp), rc 78 (by omega)]; exact (y4.2 k hk).2.1
  · have hk' : k < xsn (yE a) := hk
    have h8 := hX.2.2.2.1
    show A6 84 0 0 k = _
    rw [F6.g (c := 84) (by simp), h5 k (by omega), F4.g (c := 79) (by simp), F3.g (c := 79) (by simp), F2.g (c := 79) (by simp), F1.g (c := 79) (by simp), rc 79 (by omega)]; exact (y4.2 k hk).2.2
  · rw [h6 k hk, F5.g (c := 59) (by simp), F4.g (c := 59) (by simp), F3.g (c := 59) (by simp), F2.g (c := 59) (by simp), F1.g (c := 59) (by simp), rc 59 (by omega)]; exact y5 k hk
  · rw [ac 8 (by omega), r8 14 (by omega) (by omega) (by omega) (by omega), ac 60 (by omega), rc 60 (by omega)]; exact q5
  · rw [ac 8 (by omega), r8 23 (by omega) (by omega) (by omega) (by omega)]; exact q6
theorem p_restore (h : G I P) : Pq (f_X7_restore I) f_X8_restore P := by
  obtain ⟨l, a, hA, hC, hR⟩ := h
  have hJ := hA.1.2.1
  unfold Pq f_X7_restore
  rw [hC.2.2.2.1]
  cases hhi : yhi a
  · obtain ⟨r1, r2⟩ := r_code hR 0
    refine wp_pos rfl (wp_some ?_)
    show wp (f_X8_restore I) _
    unfold f_X8_restore
    refine wp_bnd (wp_pos ?_ (wp_some ⟨rfl, l, a, hA, GC_k hC r2, r1⟩))
    have e : upd4 I 8 0 0 2 0 8 0 0 54 = bI (yhi a) := r1.2.2.1
    rw [e, hhi]; rfl
  · refine wp_neg (by decide) ?_
    have hV := hA.2.2.1 hhi
    obtain ⟨p, c1, x, c3, c4, c5, c6, c7⟩ := hC
    refine wp_bind (c_copy (z0 := 0) (z1 := 1) (by omega) hJ (c4 hhi)) ?_
    rintro I1 ⟨b0, b1, g1⟩
    refine wp_bnd (wp_some ?_)
    obtain ⟨I2, hI2⟩ : ∃ I2, I2 = upd4 I1 7 0 0 10 0 := ⟨_, rfl⟩
    rw [← hI2]
    have g2 : ∀ c, c ≠ 7 → I2 c = I1 c := fun c hc => by rw [hI2, u_c hc]
    have g3 : ∀ c, ¬ c ∈ [0, 6, 7, 9, 10, 44, 45, 46] → I2 c = I c := fun c hc => by
      simp only [List.mem_cons, List.not_mem_nil, or_false, not_or] at hc
      rw [g2 c hc.2.2.1, g1 c (by simp; omega)]
    have f7 : ∀ f, f ≠ 10 → I2 7 0 0 f = I 7 0 0 f := fun f hf => by rw [hI2, u5, if_neg hf, g1 7 (by simp)]
    have eX : ∀ b, BxC I1 b (lJ (yL a)) (yV a) → BxC I2 b (lJ (yL a)) (yV a) := fun b h => by
      obtain ⟨w1, w2, w3, w4⟩ := h
      have e : ∀ c, c ∈ [0, 6, 9, 44, 45, 46] → I2 c = I1 c := fun c hc => g2 c (by simp at hc; omega)
      have e' : ∀ c, c ∈ [6, 44, 45, 46] → I2 c = I1 c := fun c hc => g2 c (by simp at hc; omega)
      exact ⟨CB_eq w1 e, cRw_eq w2 e', cRw_eq w3 e', fun k hk => by rw [g2 10 (by omega)]; exact w4 k hk⟩
    have kc : Kc I I2 := fun c hc => g3 c (by simp; omega)
    have hC2 : GC I2 P l (reA a) := by
      refine ⟨p, CL_eq c1 (fun c hc => by rw [g3 c (by simp at hc ⊢; omega)]), eX 0 b0, by rw [f7 7 (by omega)]; exact c3, fun _ => eX 1 b1, ?_, by rw [f7 11 (by omega)]; exact c6, Or.inl (by rw [hI2, u5, if_pos rfl])⟩
      rw [f7 1 (by omega), g3 47 (by simp)]; exact c5
    have hR2 := GR_k hR kc
    obtain ⟨q1, _, q3, q4, q5, q6⟩ := hR2
    obtain ⟨v1, v2, v3, v4, v5⟩ := q4 hhi
    show wp (f_X8_restore I2) _
    unfold f_X8_restore
    refine wp_bnd (wp_neg ?_ (wp_bnd (wp_bnd ?_)))
    · rw [u5, if_neg (by omega), q3, hhi]; decide
    obtain ⟨R1, hR1⟩ : ∃ R1, R1 = upd4 (upd4 (upd4 I2 8 0 0 2 0) 8 0 0 33 (upd4 I2 8 0 0 2 0 8 0 0 55)) 8 0 0 34 (upd4 (upd4 I2 8 0 0 2 0) 8 0 0 33 (upd4 I2 8 0 0 2 0 8 0 0 55) 8 0 0 56) := ⟨_, rfl⟩
    rw [← hR1, n_0]
    have rc : ∀ c, c ≠ 8 → R1 c = I2 c := fun c hc => by rw [hR1, u_c hc, u_c hc, u_c hc]
    have r8 : ∀ f, f ≠ 2 → f ≠ 33 → f ≠ 34 → R1 8 0 0 f = I2 8 0 0 f := fun f h2 h33 h34 => by rw [hR1, u5, if_neg h34, u5, if_neg h33, u5, if_neg h2]
    have r33 : R1 8 0 0 33 = nI (xna (yV a)) := by rw [hR1, u5, if_neg (by omega), u5, if_pos rfl, u5, if_neg (by omega)]; exact v2
    have r34 : R1 8 0 0 34 = nI (xsn (yV a)) := by rw [hR1, u5, if_pos rfl, u5, if_neg (by omega), u5, if_neg (by omega)]; exact v4.1
    have hB := hV.1 _ (Nat.le_refl _)
    have pk : pkd R1 80 0 (lJ (yL a)) (xB (yV a)) := by unfold pkd at v1 ⊢; rw [rc 80 (by omega)]; exact v1
    refine wp_bind (r_unpack (c := 80) (q := 0) (Or.inr rfl) (by decide) hJ ⟨hB.2.1, hB.1.2.1, hB.2.2⟩ pk) ?_
    rintro A1 ⟨F1, e1, rb⟩
    refine wp_bind (r_be (c0 := 65) (c1 := 81) (n := 1800) rfl rfl (by omega) (by omega)) ?_
    rintro A2 ⟨F2, h2⟩
    refine wp_bind (r_be (c0 := 77) (c1 := 82) (n := 8) rfl rfl (by omega) (by omega)) ?_
    rintro A3 ⟨F3, h3⟩
    refine wp_bind (r_be (c0 := 78) (c1 := 83) (n := 8) rfl rfl (by omega) (by omega)) ?_
    rintro A4 ⟨F4, h4⟩
    refine wp_bind (r_be (c0 := 79) (c1 := 84) (n := 8) rfl rfl (by omega) (by omega)) ?_
    rintro A5 ⟨F5, h5⟩
    refine wp_bind (r_be (c0 := 59) (c1 := 85) (n := 3) rfl rfl (by omega) (by omega)) ?_
    rintro A6 ⟨F6, h6⟩
    have F26 : Fr [(65, 0), (77, 0), (78, 0), (79, 0), (59, 0)] A1 A6 := ((((F2.sub (by simp)).tr (F3.sub (by simp))).tr (F4.sub (by simp))).tr (F5.sub (by simp))).tr (F6.sub (by simp))
    have ac : ∀ c, c ≠ 65 → c ≠ 77 → c ≠ 78 → c ≠ 79 → c ≠ 59 → A6 c = A1 c := fun c h1 h2 h3 h4 h5 => F26.gc (fun z => by simp; omega)
    have a1c : ∀ c, c ≠ 8 → c ≠ 53 → c ≠ 62 → c ≠ 63 → c ≠ 64 → A1 c = I2 c := fun c h1 h2 h3 h4 h5 => by rw [F1.gc (c := c) (fun z => by simp; omega), rc c h1]
    have a8 : ∀ f, (f < 29 ∨ 32 < f) → A6 8 0 0 f = R1 8 0 0 f := fun f hf => by rw [ac 8 (by omega) (by omega) (by omega) (by omega) (by omega)]; exact e1 f hf
    have kr : Kr I2 A6 := fun c h8 hc => by rw [ac c (by omega) (by omega) (by omega) (by omega) (by omega), a1c c h8 (by omega) (by omega) (by omega) (by omega)]
    have hna := hV.2.1
    have h8' := hV.2.2.2.1
    refine wp_some ⟨rfl, ?_⟩
    show G A6 P
    refine ⟨l, reA a, ⟨hA.1, hV, fun _ => hV, hA.2.2.2.1, hA.2.2.2.2⟩, GC_k hC2 kr, LdR_eq hA.1 q1 (fun c i hc => by rw [ac c (by omega) (by omega) (by omega) (by omega) (by omega), a1c c (by omega) (by omega) (by omega) (by omega) (by omega)]), ⟨?_, ?_, fun k hk => ?_, ⟨?_, fun k hk => ⟨?_, ?_, ?_⟩⟩, fun k hk => ?_⟩, ?_, fun _ => ?_, ?_, ?_⟩
    · unfold RB rR at rb ⊢
      rw [ac 53 (by omega) (by omega) (by omega) (by omega) (by omega), ac 62 (by omega) (by omega) (by omega) (by omega) (by omega), ac 63 (by omega) (by omega) (by omega) (by omega) (by omega), ac 64 (by omega) (by omega) (by omega) (by omega) (by omega), ac 8 (by omega) (by omega) (by omega) (by omega) (by omega)]
      exact rb
    · rw [a8 33 (by omega)]; exact r33
    · have hk' : k < xna (yV a) := hk
      have hk2 := hV.1 k (by omega)
      refine pkd_x (I := I2) (c := 81) hJ ⟨hk2.2.1, hk2.1.2.1, hk2.2.2⟩ (v3 k hk) (fun z hz => ?_)
      rw [F6.g (c := 65) (by simp), F5.g (c := 65) (by simp), F4.g (c := 65) (by simp), F3.g (c := 65) (by simp), h2 _ (by omega), a1c 81 (by omega) (by omega) (by omega) (by omega) (by omega)]
    · rw [a8 34 (by omega)]; exact r34
    · have hk' : k < xsn (yV a) := hk
      rw [F6.g (c := 77) (by simp), F5.g (c := 77) (by simp), F4.g (c := 77) (by simp), h3 k (by omega), F2.g (c := 82) (by simp), a1c 82 (by omega) (by omega) (by omega) (by omega) (by omega)]; exact (v4.2 k hk).1
    · have hk' : k < xsn (yV a) := hk
      show A6 78 0 0 k = _
      rw [F6.g (c := 78) (by simp), F5.g (c := 78) (by simp), h4 k (by omega), F3.g (c := 83) (by simp), F2.g (c := 83) (by simp), a1c 83 (by omega) (by omega) (by omega) (by omega) (by omega)]; exact (v4.2 k hk).2.1
    · have hk' : k < xsn (yV a) := hk
      show A6 79 0 0 k = _
      rw [F6.g (c := 79) (by simp), h5 k (by omega), F4.g (c := 84) (by simp), F3.g (c := 84) (by simp), F2.g (c := 84) (by simp), a1c 84 (by omega) (by omega) (by omega) (by omega) (by omega)]; exact (v4.2 k hk).2.2
    · rw [h6 k hk, F5.g (c := 85) (by simp), F4.g (c := 85) (by simp), F3.g (c := 85) (by simp), F2.g (c := 85) (by simp), a1c 85 (by omega) (by omega) (by omega) (by omega) (by omega)]; exact v5 k hk
    · rw [a8 54 (by omega), r8 54 (by omega) (by omega) (by omega)]; exact q3
    · have := q4 hhi
      unfold RV pkd rSn at this ⊢
      rw [a8 55 (by omega), a8 56 (by omega), r8 55 (by omega) (by omega) (by omega), r8 56 (by omega) (by omega) (by omega), ac 80 (by omega) (by omega) (by omega) (by omega) (by omega), ac 81 (by omega) (by omega) (by omega) (by omega) (by omega), ac 82 (by omega) (by omega) (by omega) (by omega) (by omega), ac (82 + 1) (by omega) (by omega) (by omega) (by omega) (by omega), ac (82 + 2) (by omega) (by omega) (by omega) (by omega) (by omega), ac 85 (by omega) (by omega) (by omega) (by omega) (by omega), a1c 80 (by omega) (by omega) (by omega) (by omega) (by omega), a1c 81 (by omega) (by omega) (by omega) (by omega) (by omega), a1c 82 (by omega) (by omega) (by omega) (by omega) (by omega), a1c (82 + 1) (by omega) (by omega) (by omega) (by omega) (by omega), a1c (82 + 2) (by omega) (by omega) (by omega) (by omega) (by omega), a1c 85 (by omega) (by omega) (by omega) (by omega) (by omega)]
      exact this
    · rw [a8 14 (by omega), r8 14 (by omega) (by omega) (by omega), ac 60 (by omega) (by omega) (by omega) (by omega) (by omega), a1c 60 (by omega) (by omega) (by omega) (by omega) (by omega)]; exact q5
    · rw [a8 23 (by omega), r8 23 (by omega) (by omega) (by omega)]; exact q6
end
