/-! a text with a fault; a text without -/
theorem KC_c {X : PX} {I : Mem} {c : Nat} (h : KC X I) (hc : c ≠ 5) (ht : ¬ tCg c) : I c = pxI X c := funext fun z => by
  rcases h c z with q | q | q
  · exact q
  · exact absurd q hc
  · exact absurd q.2 ht
theorem KC_z {X : PX} {I : Mem} {c z : Nat} (h : KC X I) (hc : c ≠ 5) (hz : z ≠ pxd X) : I c z = pxI X c z := by
  rcases h c z with q | q | q
  · exact q
  · exact absurd q hc
  · exact absurd q.1 hz
theorem KR_n {X : PX} {R : Mem} {c i : Nat} (h : KR X R) (ht : ¬ tRg c i) : R c 0 0 i = pxR X c 0 0 i := (h.2 c i).resolve_right ht
theorem CL_eq {I I' : Mem} {l : Nat} {L : Land} (h : CL I l L) (e : ∀ c, c ∈ [3, 4, 28, 30, 32, 33, 35, 36, 38, 40, 41] → I' c l = I c l) : CL I' l L := by
  unfold CL lA at *
  rw [e 3 (by decide), e 4 (by decide), e 28 (by decide), e 30 (by decide), e 32 (by decide), e 33 (by decide), e 35 (by decide), e 36 (by decide), e 38 (by decide), e 40 (by decide), e 41 (by decide)]
  exact h
theorem CB_eq {I I' : Mem} {b J : Nat} {B : Ben} (h : CB I b J B) (e : ∀ c, c ∈ [0, 6, 9, 44, 45, 46] → I' c = I c) : CB I' b J B := by
  unfold CB cRw at *
  rw [e 0 (by decide), e 6 (by decide), e 9 (by decide), e 44 (by decide), e 45 (by decide), e 46 (by decide)]
  exact h
theorem cRw_eq {I I' : Mem} {b n : Nat} {a1 a2 a3 : Nat → Int32} (h : cRw I b n a1 a2 a3) (e : ∀ c, c ∈ [6, 44, 45, 46] → I' c = I c) : cRw I' b n a1 a2 a3 := by
  unfold cRw at *
  rw [e 6 (by decide), e 44 (by decide), e 45 (by decide), e 46 (by decide)]
  exact h
theorem stl_eq {I I' : Mem} {P P' : PMem} {l : Nat} {L : Land} {B : Ben} (h : stl I P 0 l L B) (e : ∀ c, c ∈ [1, 12, 14, 16, 18, 20, 21, 23, 24] → I' c = I c) (e3 : I' 3 l = I 3 l) (e36 : I' 36 l = I 36 l) (hP : P' 1 = P 1) : stl I' P' 0 l L B := by
  obtain ⟨p0, p1, q1, ⟨j0, j1, j2, j3, j4⟩, v, t⟩ := h
  rw [p0] at j1 j3
  refine ⟨by rw [hP]; exact p0, by rw [hP]; exact p1, by rw [e 1 (by decide)]; exact q1, ⟨by rw [hP]; exact j0, ?_, j2, ?_, ?_⟩, ?_, ?_⟩
  · rw [hP, p0, e3]; exact j1
  · rw [hP, p0, e36]; exact j3
  · rw [e 12 (by decide), e 14 (by decide)]; exact j4
  · unfold qvS vS at *
    rw [e 16 (by decide), e 18 (by decide), e 20 (by decide), e 21 (by decide), e 23 (by decide)]; exact v
  · rw [e 24 (by decide)]; exact t
theorem LdR_eq {R R' : Mem} {L : Land} (hL : LOK L) (h : LdR R L) (e : ∀ c i, (c = 50 ∧ i < 7 ∨ c = 51 ∧ i < 81 ∨ (c = 52 ∨ c = 54 ∨ c = 55) ∧ i < 5 ∨ c = 56 ∧ i < 35 ∨ c = 57 ∧ i < 54 ∨ c = 58 ∧ i < 600 ∨ c = 61) → R' c 0 0 i = R c 0 0 i) : LdR R' L := by
  obtain ⟨h1, h2, h3, h4, h5, h6, h7, h8, h9, h10, h11, h12, h13⟩ := h
  have hT := hL.1
  have hJ := hL.2.1
  have hC := hL.2.2.1
  have hn := hL.2.2.2.1
  have hl := hL.2.2.2.2.2.2.2.1.1
  refine ⟨?_, fun j hj => ?_, fun j hj i hi => ?_, fun a b ha hb => ?_, ?_, ?_, fun c hc t ht => ?_, fun j hj => ?_, ?_, fun k hk => ?_, fun a b ha hb => ?_, ?_, ?_⟩
  · rw [e 50 4 (by omega)]; exact h1
  · rw [e 55 j (by omega)]; exact h2 j hj
  · have := hn j hj
    rw [e 56 _ (by omega)]; exact h3 j hj i hi
  · rw [e 51 _ (by omega)]; exact h4 a b ha hb
  · rw [e 50 0 (by omega)]; exact h5
  · rw [e 50 5 (by omega)]; exact h6
  · rw [e 57 _ (by omega)]; exact h7 c hc t ht
  · rw [e 52 j (by omega), e 54 j (by omega)]; exact h8 j hj
  · rw [e 50 6 (by omega)]; exact h9
  · rw [e 58 k (by omega)]; exact h10 k hk
  · rw [e 61 _ (by omega)]; exact h11 a b ha hb
  · rw [e 50 3 (by omega)]; exact h12
  · rw [e 50 2 (by omega)]; exact h13
section
variable {I R : Mem} {P : PMem} {l N : Nat} {a : Abs}
/-- the reference's own fields, as land begins -/
def R6 (R : Mem) (v : Int32) : Mem := upd4 (upd4 (upd4 (upd4 (upd4 (upd4 R 8 0 0 2 0) 8 0 0 14 0) 8 0 0 16 v) 8 0 0 15 0) 8 0 0 21 0) 8 0 0 23 (-1)
theorem R6_c {v : Int32} {c : Nat} (hc : c ≠ 8) : R6 R v c = R c := by unfold R6; rw [u_c hc, u_c hc, u_c hc, u_c hc, u_c hc, u_c hc]
theorem R6_8 {v : Int32} {f : Nat} (h : f ≠ 2 ∧ f ≠ 14 ∧ f ≠ 16 ∧ f ≠ 15 ∧ f ≠ 21 ∧ f ≠ 23) : R6 R v 8 0 0 f = R 8 0 0 f := by
  unfold R6; rw [u5, if_neg (by omega), u5, if_neg (by omega), u5, if_neg (by omega), u5, if_neg (by omega), u5, if_neg (by omega), u5, if_neg (by omega)]
theorem L_land0 (hA : AOK a) (hC : GC I P l a) (hR : GR R a) (hN : N ≤ ytn a) :
    ∃ I' R', f_X5_readLand (1 - l) (upd4 I 7 0 0 1 0) P (nI N) = f_X5_readLand_77 (1 - l) I' (updP P 5 0 0 4 (1 - l)) ∧ f_X8_land_50 FU (R6 R (nI N)) 0 = f_X8_land_135 R' ∧ QE (upd4 I 7 0 0 1 0, R6 R (nI N), 1 - l, N, ytb a) I' R' := by
  have h6 := hA.2.2.2.1
  refine L_read (by omega) (by omega) hA.2.2.2.2 (fun i hi => ?_) (fun i hi => ?_) ?_ ?_ ?_
  · rw [u_c (by omega)]; exact hC.2.2.2.2.2.1.2 i (by omega)
  · rw [R6_c (by omega)]; exact hR.2.2.2.2.1.2 i (by omega)
  · unfold R6; rw [u5, if_neg (by omega), u5, if_neg (by omega), u5, if_neg (by omega), u5, if_pos rfl]
  · unfold R6; rw [u5, if_neg (by omega), u5, if_neg (by omega), u5, if_pos rfl]
  · unfold R6; rw [u5, if_neg (by omega), u5, if_pos rfl]
theorem r_land1 (h14 : R 8 0 0 14 = nI (ytn a)) (hn : ytn a ≤ 600) (hN : N ≤ ytn a) : f_X8_land R (nI N) = f_X8_land_50 FU (R6 R (nI N)) 0 := by
  unfold f_X8_land R6
  rw [bnd_e, if_neg (nI_pos (by omega)), if_pos (by rw [u5, if_neg (by omega), h14]; exact nI_le hN (by omega)), bnd_e, bnd_e, bnd_e, bnd_e, bnd_e]
def faE (a : Abs) (p : Int32) : Abs := (yL a, incE (yE a) 0, yhi a, yV a, 0, ytb a, p)
theorem Dd_out (hA : AOK a) (hC : GC I P l a) (hR : GR R a) (hN : N ≤ ytn a) {I' R' : Mem} (dd : Dd (upd4 I 7 0 0 1 0, R6 R (nI N), 1 - l, N, ytb a) I' R') :
    ∃ v p, v ≠ 0 ∧ I' 5 0 0 0 = v ∧ R' 8 0 0 21 = v ∧ I' 5 0 0 1 = p ∧ R' 8 0 0 22 = p ∧
      GC (upd4 (upd4 I' 7 0 0 11 p) 10 0 0 0 (upd4 I' 7 0 0 11 p 10 0 0 0 + 1)) (updP P 5 0 0 4 (1 - l)) l (faE a p) ∧ GR (upd4 (upd4 R' 8 0 0 23 p) 59 0 0 0 (upd4 R' 8 0 0 23 p 59 0 0 0 + 1)) (faE a p) ∧ AOK (faE a p) ∧
      Kc I (upd4 (upd4 I' 7 0 0 11 p) 10 0 0 0 (upd4 I' 7 0 0 11 p 10 0 0 0 + 1)) ∧ Kr R (upd4 (upd4 R' 8 0 0 23 p) 59 0 0 0 (upd4 R' 8 0 0 23 p 59 0 0 0 + 1)) ∧ upd4 (upd4 R' 8 0 0 23 p) 59 0 0 0 (upd4 R' 8 0 0 23 p 59 0 0 0 + 1) 8 0 0 2 = 0 := by
  obtain ⟨⟨kc, kr⟩, v, p, hv, ⟨a1, a2, a3, _⟩, a5, a6⟩ := dd
  obtain ⟨⟨p1, p2, p3⟩, c1, ⟨x1, x2, x3, x4⟩, c3, c4, c5, c6, c7⟩ := hC
  obtain ⟨r1, ⟨y1, y2, y3, y4, y5⟩, r3, r4, r5, r6⟩ := hR
  have hl : l ≠ 1 - l := by omega
  refine ⟨v, p, hv, a1, a5, a2, a6, ?_, ?_, ⟨hA.1, hA.2.1, hA.2.2.1, by show (0 : Nat) ≤ 600; omega, hA.2.2.2.2⟩, ?_, ?_, ?_⟩
  · have eN : ∀ c, c ≠ 5 → c ≠ 7 → c ≠ 10 → ¬ tCg c → upd4 (upd4 I' 7 0 0 11 p) 10 0 0 0 (upd4 I' 7 0 0 11 p 10 0 0 0 + 1) c = I c := by
      intro c h5 h7 h10 ht
      rw [u_c h10, u_c h7, KC_c kc h5 ht]; exact u_c h7
    have eZ : ∀ c, c ≠ 5 → c ≠ 7 → c ≠ 10 → upd4 (upd4 I' 7 0 0 11 p) 10 0 0 0 (upd4 I' 7 0 0 11 p 10 0 0 0 + 1) c l = I c l := by
      intro c h5 h7 h10
      rw [u_c h10, u_c h7, KC_z kc h5 hl]
      show upd4 I 7 0 0 1 0 c l = _
      rw [u_c h7]
    have i7 : ∀ f, I' 7 0 0 f = upd4 I 7 0 0 1 0 7 0 0 f := fun f => by rw [KC_c kc (by omega) (by unfold tCg; omega)]; rfl
    have e7 : ∀ f, f ≠ 1 → f ≠ 11 → upd4 (upd4 I' 7 0 0 11 p) 10 0 0 0 (upd4 I' 7 0 0 11 p 10 0 0 0 + 1) 7 0 0 f = I 7 0 0 f := by
      intro f h1 h11
      rw [u_c (by omega), u5, if_neg h11, i7, u5, if_neg h1]
    have i10 : I' 10 = I 10 := by
      rw [KC_c kc (c := 10) (by omega) (by unfold tCg; omega)]
      show upd4 I 7 0 0 1 0 10 = I 10
      exact u_c (by omega)
    have eB : ∀ c, c ∈ [0, 6, 9, 44, 45, 46] → upd4 (upd4 I' 7 0 0 11 p) 10 0 0 0 (upd4 I' 7 0 0 11 p 10 0 0 0 + 1) c = I c := by
      intro c hc
      simp only [List.mem_cons, List.not_mem_nil, or_false] at hc
      exact eN c (by omega) (by omega) (by omega) (by unfold tCg; omega)
    have eW : ∀ c, c ∈ [6, 44, 45, 46] → upd4 (upd4 I' 7 0 0 11 p) 10 0 0 0 (upd4 I' 7 0 0 11 p 10 0 0 0 + 1) c = I c := by
      intro c hc
      simp only [List.mem_cons, List.not_mem_nil, or_false] at hc
      exact eN c (by omega) (by omega) (by omega) (by unfold tCg; omega)
    refine ⟨⟨?_, p2, ?_⟩, CL_eq c1 (fun c hc => ?_), ⟨CB_eq x1 eB, cRw_eq x2 eW, cRw_eq x3 eW, fun k hk => ?_⟩, ?_, fun q => ?_, ⟨?_, fun k hk => absurd hk (Nat.not_lt_zero _)⟩, ?_, ?_⟩
    · show updP P 5 0 0 4 (1 - l) 7 0 0 2 = l
      simp [updP]; exact p1
    · show updP P 5 0 0 4 (1 - l) 7 0 0 3 = 1 - l
      simp [updP]; exact p3
    · simp only [List.mem_cons, List.not_mem_nil, or_false] at hc
      exact eZ c (by omega) (by omega) (by omega)
    · show _ = if k = 0 then xst (yE a) k + 1 else xst (yE a) k
      rw [u5]
      by_cases q : k = 0
      · subst q; rw [if_pos rfl, if_pos rfl, u_c (by omega), i10, x4 0 (by omega)]
      · rw [if_neg q, if_neg q, u_c (by omega), i10]; exact x4 k hk
    · rw [e7 7 (by omega) (by omega)]; exact c3
    · obtain ⟨w1, w2, w3, w4⟩ := c4 q
      refine ⟨CB_eq w1 eB, cRw_eq w2 eW, cRw_eq w3 eW, fun k hk => ?_⟩
      rw [u_ne (by omega), u_c (by omega), i10]; exact w4 k hk
    · rw [u_c (by omega), u5, if_neg (by omega), i7, u5, if_pos rfl]; rfl
    · rw [u_c (by omega), u5, if_pos rfl]; rfl
    · rw [e7 10 (by omega) (by omega)]
      refine c7.imp id (fun h => ⟨h.1, stl_eq h.2 (fun c hc => ?_) (eZ 3 (by omega) (by omega) (by omega)) (eZ 36 (by omega) (by omega) (by omega)) ?_⟩)
      · simp only [List.mem_cons, List.not_mem_nil, or_false] at hc
        exact eN c (by omega) (by omega) (by omega) (by unfold tCg; omega)
      · funext z r i; simp [updP]
  · have q8 : ∀ f, f ≠ 2 → f ≠ 14 → f ≠ 23 → ¬ (15 ≤ f ∧ f ≤ 22) → upd4 (upd4 R' 8 0 0 23 p) 59 0 0 0 (upd4 R' 8 0 0 23 p 59 0 0 0 + 1) 8 0 0 f = R 8 0 0 f := by
      intro f h2 h14 h23 ht
      rw [u_c (by omega), u5, if_neg h23, KR_n kr (by unfold tRg; omega)]
      exact R6_8 (by omega)
    have qc : ∀ c, 59 < c → upd4 (upd4 R' 8 0 0 23 p) 59 0 0 0 (upd4 R' 8 0 0 23 p 59 0 0 0 + 1) c = R c := by
      intro c hc
      rw [u_c (by omega), u_c (by omega), kr.1 c (by omega) (by omega)]
      exact R6_c (by omega)
    have qi : ∀ c i, c ≠ 8 → c ≠ 59 → ¬ tRg c i → upd4 (upd4 R' 8 0 0 23 p) 59 0 0 0 (upd4 R' 8 0 0 23 p 59 0 0 0 + 1) c 0 0 i = R c 0 0 i := by
      intro c i h8 h59 ht
      rw [u_c h59, u_c h8, KR_n kr ht]
      show R6 R (nI N) c 0 0 i = _
      rw [R6_c h8]
    have q59 : R' 59 = R 59 := (kr.1 59 (by omega) (by omega)).trans (R6_c (by omega) : R6 R (nI N) 59 = R 59)
    have hJ := hA.1.2.1
    refine ⟨LdR_eq hA.1 r1 (fun c i h => qi c i (by omega) (by omega) (by unfold tRg; omega)), ⟨⟨fun j hj => ?_, ?_, ?_, ?_, ?_⟩, ?_, ?_, ?_, fun k hk => ?_⟩, ?_, fun q => ?_, ⟨?_, fun k hk => absurd hk (Nat.not_lt_zero _)⟩, ?_⟩
    · rw [qi 53 j (by omega) (by omega) (by unfold tRg; have hj' : j < lJ (yL a) := hj; omega)]; exact y1.1 j hj
    · rw [q8 29 (by omega) (by omega) (by omega) (by omega)]; exact y1.2.1
    · unfold rR; rw [q8 30 (by omega) (by omega) (by omega) (by omega), qc 62 (by omega)]; exact y1.2.2.1
    · unfold rR; rw [q8 31 (by omega) (by omega) (by omega) (by omega), qc 63 (by omega)]; exact y1.2.2.2.1
    · unfold rR; rw [q8 32 (by omega) (by omega) (by omega) (by omega), qc 64 (by omega)]; exact y1.2.2.2.2
    · rw [q8 33 (by omega) (by omega) (by omega) (by omega)]; exact y2
    · unfold pkd; rw [qc 65 (by omega)]; exact y3
    · unfold rSn; rw [q8 34 (by omega) (by omega) (by omega) (by omega), qc 77 (by omega), qc (77 + 1) (by omega), qc (77 + 2) (by omega)]; exact y4
    · show _ = if k = 0 then xst (yE a) k + 1 else xst (yE a) k
      rw [u5]
      by_cases q : k = 0
      · subst q; rw [if_pos rfl, if_pos rfl, u_c (by omega), q59, y5 0 (by omega)]
      · rw [if_neg q, if_neg q, u_c (by omega), q59]; exact y5 k hk
    · rw [q8 54 (by omega) (by omega) (by omega) (by omega)]; exact r3
    · have := r4 q
      unfold RV pkd rSn at this ⊢
      rw [q8 55 (by omega) (by omega) (by omega) (by omega), q8 56 (by omega) (by omega) (by omega) (by omega), qc 80 (by omega), qc 81 (by omega), qc 82 (by omega), qc (82 + 1) (by omega), qc (82 + 2) (by omega), qc 85 (by omega)]
      exact this
    · rw [u_c (by omega), u5, if_neg (by omega), KR_n kr (by unfold tRg; omega)]
      show R6 R (nI N) 8 0 0 14 = _
      unfold R6; rw [u5, if_neg (by omega), u5, if_neg (by omega), u5, if_neg (by omega), u5, if_neg (by omega), u5, if_pos rfl]; rfl
    · rw [u_c (by omega), u5, if_pos rfl]; rfl
  · intro c hc
    rw [u_c (by omega), u_c (by omega), KC_c kc (by omega) (by unfold tCg; omega)]; exact u_c (by omega)
  · intro c hc hc2
    rw [u_c (by omega), u_c hc, kr.1 c hc (by omega)]; exact R6_c hc
  · rw [u_c (by omega), u5, if_neg (by omega), KR_n kr (by unfold tRg; omega)]
    show R6 R (nI N) 8 0 0 2 = _
    unfold R6; rw [u5, if_neg (by omega), u5, if_neg (by omega), u5, if_neg (by omega), u5, if_neg (by omega), u5, if_neg (by omega), u5, if_pos rfl]
end
