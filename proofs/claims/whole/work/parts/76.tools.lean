/-! a settled court, a telling, at rest; arguments; pairs of calls -/
theorem CX_fr {I I' : Mem} {S : List (Nat × Nat)} {b J : Nat} {E : Bx} (h : BxC I b J E) (F : Fr S I I') (hs' : ∀ c, c ∈ [0, 6, 9, 10, 44, 45, 46] → ∀ z, ¬ (c, z) ∈ S) : BxC I' b J E := by
  unfold BxC CB cRw at *
  rw [F.gc (hs' 0 (by decide)), F.gc (hs' 6 (by decide)), F.gc (hs' 9 (by decide)), F.gc (hs' 10 (by decide)), F.gc (hs' 44 (by decide)), F.gc (hs' 45 (by decide)), F.gc (hs' 46 (by decide))]
  exact h
section
variable {I : Mem} {P : PMem} {l : Nat} {a : Abs}
theorem A_BOK (h : AOK a) : BOK (yL a) (xB (yE a)) := (h.2.1.1 _ (Nat.le_refl _)).1
/-- what the class's part keeps while a court works -/
theorem GC_w {I' : Mem} {P' : PMem} {S : List (Nat × Nat)} (h : GC I P l a) (F : Fr S I I') (hs' : ∀ c, c ∈ [0, 3, 4, 6, 9, 10, 28, 30, 32, 33, 35, 36, 38, 40, 41, 44, 45, 46, 47] → ∀ z, ¬ (c, z) ∈ S) (h7 : ∀ f, f ≠ 10 → I' 7 0 0 f = I 7 0 0 f) (hP : P' 7 0 0 2 = P 7 0 0 2 ∧ P' 7 0 0 3 = P 7 0 0 3)
    (hst : I' 7 0 0 10 = 0 ∨ (I' 7 0 0 10 = 1 ∧ stl I' P' 0 l (yL a) (xB (yE a)))) : GC I' P' l a := by
  obtain ⟨p, c1, c2, c3, c4, c5, c6, c7⟩ := h
  refine ⟨by rw [hP.1, hP.2]; exact p, CL_fr c1 F (fun c hc => hs' c (by simp at hc ⊢; omega) l), CX_fr c2 F (fun c hc => hs' c (by simp at hc ⊢; omega)), by rw [h7 7 (by omega)]; exact c3, fun q => CX_fr (c4 q) F (fun c hc => hs' c (by simp at hc ⊢; omega)), ?_, by rw [h7 11 (by omega)]; exact c6, hst⟩
  rw [h7 1 (by omega), F.gc (hs' 47 (by decide))]; exact c5
theorem s_court (hA : AOK a) (h : GC I P l a) : wp (f_X7_settledCourt I P) (fun r => GC r.1 r.2 l a ∧ stl r.1 r.2 0 l (yL a) (xB (yE a)) ∧ Kc I r.1) := by
  have h0 := h
  obtain ⟨⟨p1, p2, p3⟩, c1, c2, c3, c4, c5, c6, c7⟩ := h
  unfold f_X7_settledCourt
  refine wp_ite (fun q => ?_) (fun q => wp_some ?_)
  · rw [p1]
    refine wp_gd (dlt p2) ?_
    refine wp_bind (c_load (P := P) (z := 0) p2 c1.1 (fun j hj => (c1.2.2.2.2.1 j hj).1) c2.1.1) ?_
    rintro ⟨I1, P1⟩ ⟨r1, F1', r3, r4⟩
    have F1 : Fr [(1, 0), (12, 0), (14, 0)] I I1 := F1'
    have r1' : P1 = ldP P 0 l := r1
    subst r1'
    have j1 : cJ I1 (ldP P 0 l) 0 (lJ (yL a)) (lns (yL a)) (tw0 (yL a)) (dy0 (yL a) (xB (yE a))) := r4
    have e0 : ldP P 0 l 1 0 0 0 = l := by simp [ldP, updP]
    have e1 : ldP P 0 l 1 0 0 1 = 0 := by simp [ldP, updP]
    have S := B_SOK hA.1 (A_BOK hA).1 (fun _ => false)
    refine wp_bind (q_settle (l := l) (df := qdf (yL a)) hA.1 (A_BOK hA) S (CL_fr c1 F1 (by simp)) (CX_fr c2 F1 (by simp)).1 j1 e0 e1 r3) ?_
    rintro I2 ⟨F2, v2, t2⟩
    refine wp_bnd (wp_some ?_)
    have F3 : Fr [(7, 0)] I2 (upd4 I2 7 0 0 10 1) := Fr.up (by simp)
    have F12 : Fr [(1, 0), (12, 0), (14, 0), (16, 0), (18, 0), (20, 0), (21, 0), (23, 0), (24, 0), (25, 0), (42, l), (43, l)] I I2 := (F1.sub (by simp)).tr (F2.sub (by simp [LSt]))
    have F : Fr [(7, 0), (1, 0), (12, 0), (14, 0), (16, 0), (18, 0), (20, 0), (21, 0), (23, 0), (24, 0), (25, 0), (42, l), (43, l)] I (upd4 I2 7 0 0 10 1) := (F12.sub (by simp)).tr (F3.sub (by simp))
    have hst : stl (upd4 I2 7 0 0 10 1) (ldP P 0 l) 0 l (yL a) (xB (yE a)) := by
      refine ⟨e0, e1, ?_, cJ_fr (cJ_fr j1 F2 (by simp [LSt])) F3 (by simp), vS_fr v2 F3 (by simp), ?_⟩
      · rw [F3.g (c := 1) (z := 0) (by simp), F2.g (c := 1) (z := 0) (by simp [LSt])]; exact r3
      · rw [F3.g (c := 24) (z := 0) (by simp)]; exact t2
    have e10 : upd4 I2 7 0 0 10 1 7 0 0 10 = 1 := u_at
    refine ⟨GC_w h0 F (by simp) (fun f hf => ?_) ?_ (Or.inr ⟨e10, hst⟩), hst, F.kc (by simp)⟩
    · show upd4 I2 7 0 0 10 1 7 0 0 f = _
      rw [u_if, if_neg (fun q => hf q.2), F12.g (c := 7) (z := 0) (by simp)]
    · simp [ldP, updP]
  · rcases c7 with c7 | c7
    · exact absurd c7 q
    · exact ⟨h0, c7.2, Kc.rfl⟩
/-! the reference -/
def LT8 : List (Nat × Nat) := (8, 0) :: LT
theorem GR_t {I' : Mem} (h : GR I a) (F : Fr LT8 I I') (k : K8 I I') : GR I' a := by
  unfold GR LdR RX RV RB rR pkd rSn at *
  rw [F.g (c := 50) (z := 0) (by simp [LT8, LT]), F.g (c := 51) (z := 0) (by simp [LT8, LT]), F.g (c := 52) (z := 0) (by simp [LT8, LT]), F.g (c := 53) (z := 0) (by simp [LT8, LT]), F.g (c := 54) (z := 0) (by simp [LT8, LT]), F.g (c := 55) (z := 0) (by simp [LT8, LT]), F.g (c := 56) (z := 0) (by simp [LT8, LT]), F.g (c := 57) (z := 0) (by simp [LT8, LT]), F.g (c := 58) (z := 0) (by simp [LT8, LT]), F.g (c := 59) (z := 0) (by simp [LT8, LT]), F.g (c := 60) (z := 0) (by simp [LT8, LT]), F.g (c := 61) (z := 0) (by simp [LT8, LT]), F.g (c := 62) (z := 0) (by simp [LT8, LT]), F.g (c := 63) (z := 0) (by simp [LT8, LT]), F.g (c := 64) (z := 0) (by simp [LT8, LT]), F.g (c := 65) (z := 0) (by simp [LT8, LT]), F.g (c := 77) (z := 0) (by simp [LT8, LT]), F.g (c := 77 + 1) (z := 0) (by simp [LT8, LT]), F.g (c := 77 + 2) (z := 0) (by simp [LT8, LT]), F.g (c := 80) (z := 0) (by simp [LT8, LT]), F.g (c := 81) (z := 0) (by simp [LT8, LT]), F.g (c := 82) (z := 0) (by simp [LT8, LT]), F.g (c := 82 + 1) (z := 0) (by simp [LT8, LT]), F.g (c := 82 + 2) (z := 0) (by simp [LT8, LT]), F.g (c := 85) (z := 0) (by simp [LT8, LT]),
    k 14 (by omega) (by omega), k 23 (by omega) (by omega), k 29 (by omega) (by omega), k 30 (by omega) (by omega), k 31 (by omega) (by omega), k 32 (by omega) (by omega), k 33 (by omega) (by omega), k 34 (by omega) (by omega), k 54 (by omega) (by omega), k 55 (by omega) (by omega), k 56 (by omega) (by omega)]
  exact h
abbrev m1 : Int32 := -1
theorem s_tell (hA : AOK a) (h : GR I a) : wp (f_X8_tellNow I) (fun r => r.1 = nI (gcn (yL a) (xB (yE a)) (tw0 (yL a)) (dy0 (yL a) (xB (yE a))) (binns (xB (yE a))) (qdf (yL a)) 0 (-1)) ∧
      qRQ r.2 (yL a) (xB (yE a)) (tw0 (yL a)) (dy0 (yL a) (xB (yE a))) (qmt (yL a) (xB (yE a)) (tw0 (yL a)) (dy0 (yL a) (xB (yE a))) (binns (xB (yE a)))) (qdf (yL a)) 0 (-1) ∧
      jud r.2 (yL a) (xB (yE a)) (tw0 (yL a)) (dy0 (yL a) (xB (yE a))) (binns (xB (yE a))) (qdf (yL a)) 0 (-1) ∧ Fr LT8 I r.2 ∧ K8 I r.2 ∧ r.2 8 0 0 2 = I 8 0 0 2 ∧ r.2 8 0 0 40 = -1) := by
  unfold f_X8_tellNow
  refine wp_bind (r_set hA.1 h.1) ?_
  rintro I1 ⟨F1, k1, e40, e41, e42, e43⟩
  have K1 : K8 I I1 := fun f hf _ => k1 f hf
  have h1 : GR I1 a := GR_t h (F1.sub (by simp [LT8])) K1
  refine wp_bind (r_tell hA.1 (A_BOK hA) (bw' := fun _ => false) (fun j hj => ?_) h1.1 h1.2.1.1 e40 e41 e42 e43) ?_
  · have := hA.1.2.1
    exact decide_eq_false (nI_ni (by omega))
  · rintro ⟨v, I2⟩ ⟨F2', r1, r2, r3⟩
    have F2 : Fr LT I1 I2 := F2'
    refine wp_some ⟨r1, r2, r3, (F1.sub (by simp [LT8])).tr (F2.sub (fun x hx => by simp [LT8, hx])), K1.tr (F2.k8 (by simp [LT])), ?_, ?_⟩
    · show I2 8 0 0 2 = _
      rw [F2.g (c := 8) (z := 0) (by simp [LT]), k1 2 (by omega)]
    · show I2 8 0 0 40 = _
      rw [F2.g (c := 8) (z := 0) (by simp [LT])]; exact e40
theorem LT8_kr {I' : Mem} (F : Fr LT8 I I') : Kr I I' := F.kr (by simp [LT8, LT])
end
/-! arguments -/
def inR (v : Int32) (n : Nat) : Bool := decide (0 ≤ v) && decide (v < nI n)
theorem inR_t {v : Int32} {n : Nat} (hn : n < 2 ^ 31) (h : inR v n = true) : ∃ t, t < n ∧ v = nI t := by
  unfold inR at h
  simp only [Bool.and_eq_true, decide_eq_true_eq] at h
  obtain ⟨h1, h2⟩ := h
  rw [fa_le, show (0 : Int32).toInt = 0 from rfl] at h1
  rw [fa_lt, nI_toInt hn] at h2
  refine ⟨v.toInt.toNat, by omega, ?_⟩
  rw [fa_eq, nI_toInt (by omega)]; omega
theorem inR_lt {v : Int32} {n : Nat} (h1 : ¬ v < 0) : (v < nI n) ↔ inR v n = true := by
  have := fa_of_nlt h1
  unfold inR; simp [this]
theorem i64 (v : Int32) (x : Int32) {I : Mem} : f_X8_isIn I v.toInt64 0 x.toInt64 = some (bI (decide (0 ≤ v) && decide (v ≤ x))) := by
  have z : (0 : Int64) = (0 : Int32).toInt64 := by decide
  have wl : ∀ a b : Int32, a.toInt64 < b.toInt64 ↔ a < b := fun a b => by rw [Int64.lt_iff_toInt_lt, Int32.lt_iff_toInt_lt, Int32.toInt_toInt64, Int32.toInt_toInt64]
  unfold f_X8_isIn
  simp only [lg_cmp_lt, lg_cmp_gt]
  rw [z]
  simp only [wl]
  by_cases e : v < 0
  · have : ¬ 0 ≤ v := (fa_of_lt e).2.1
    simp [e, this, bI]
  · have q := fa_of_nlt e
    by_cases e2 : x < v
    · have : ¬ v ≤ x := (fa_of_lt e2).2.1
      simp [e, e2, this, bI]
    · have := fa_of_nlt e2
      simp [e, e2, q, this, bI]
theorem r_in {I : Mem} {n : Nat} (hn : n ≤ 9) (v : Int32) : (f_X8_isIn I v.toInt64 0 ((nI n - 1).toInt64)).bind (fun y1 => gd (y1 == 0 || y1 == 1) (some y1)) = some (bI (inR v n)) := by
  rw [i64, Option.bind_some]
  have : (decide (0 ≤ v) && decide (v ≤ nI n - 1)) = inR v n := by
    unfold inR
    congr 1
    apply decide_eq_decide.mpr
    rw [fa_le, fa_lt, nI_toInt (by omega)]
    have : (nI n - 1).toInt = (n : Int) - 1 := pk_sub_toInt (b := 1) (by omega) (by omega)
    rw [this]; omega
  rw [this]
  cases inR v n <;> rfl
theorem inS {v : Int32} {n : Nat} : (decide (0 ≤ v) && decide (v ≤ nI n)) = inR v (n + 1) ∨ 2 ^ 31 ≤ n + 1 := by
  by_cases h : n + 1 < 2 ^ 31
  · left
    unfold inR
    congr 1
    apply decide_eq_decide.mpr
    rw [fa_le, fa_lt, nI_toInt (by omega), nI_toInt (by omega)]; omega
  · right; omega
/-! pairs of calls -/
def G (I : Mem) (P : PMem) : Prop := ∃ l a, AOK a ∧ GC I P l a ∧ GR I a
def Pr (fc : Option (Int32 × Mem × PMem × (Nat → Int64) × Bool × Nat)) (fr : Mem → Option (Int32 × Mem)) (n : Nat) : Prop :=
  wp fc (fun y => wp (fr y.2.1) (fun w => w.2 8 0 0 2 = y.1 ∧ (y.1 = 0 → y.2.2.2.1 0 = w.1.toInt64) ∧ G w.2 y.2.2.1 ∧ y.2.2.2.2.2 ≤ n + 1))
theorem pr_ok {fc : Option (Int32 × Mem × PMem × (Nat → Int64) × Bool × Nat)} {fr : Mem → Option (Int32 × Mem)} {n l n1 : Nat} {a : Abs} {I1 : Mem} {P1 : PMem} {O1 : Nat → Int64} {D1 : Bool} {v : Int32}
    (hf : fc = some (0, I1, P1, O1, D1, n1)) (hO : O1 0 = v.toInt64) (hn : n1 ≤ n + 1) (ha : AOK a) (hc : GC I1 P1 l a) (hr : wp (fr I1) (fun w => w.1 = v ∧ w.2 8 0 0 2 = 0 ∧ GR w.2 a ∧ Kr I1 w.2)) : Pr fc fr n := by
  refine ⟨_, hf, ?_⟩
  refine wp_mono hr ?_
  rintro w ⟨w1, w2, w3, w4⟩
  exact ⟨w2, fun _ => by rw [w1]; exact hO, ⟨l, a, ha, GC_k hc w4, w3⟩, hn⟩
theorem pr_no {fc : Option (Int32 × Mem × PMem × (Nat → Int64) × Bool × Nat)} {fr : Mem → Option (Int32 × Mem)} {n l n1 : Nat} {a : Abs} {I1 : Mem} {P1 : PMem} {O1 : Nat → Int64} {D1 : Bool} {e : Int32}
    (hf : fc = some (e, I1, P1, O1, D1, n1)) (he : e ≠ 0) (hn : n1 ≤ n + 1) (ha : AOK a) (hc : GC I1 P1 l a) (hr : wp (fr I1) (fun w => w.2 8 0 0 2 = e ∧ GR w.2 a ∧ Kr I1 w.2)) : Pr fc fr n := by
  refine ⟨_, hf, ?_⟩
  refine wp_mono hr ?_
  rintro w ⟨w2, w3, w4⟩
  exact ⟨w2, fun q => absurd q he, ⟨l, a, ha, GC_k hc w4, w3⟩, hn⟩
theorem uL0 {O : Nat → Int64} {x : Int64} : vp_updL O 0 x 0 = x := pk_uLs
/-- the reference's own refusal -/
theorem r_fail {I : Mem} {a : Abs} (h : GR I a) (x y : Int32) : wp (f_X8_fail (upd4 I 8 0 0 2 x) y) (fun w => w.1 = 0 ∧ w.2 8 0 0 2 = y ∧ GR w.2 a ∧ Kr I w.2) := by
  unfold f_X8_fail
  have e2 : upd4 (upd4 I 8 0 0 2 x) 8 0 0 2 y 8 0 0 2 = y := u_at
  refine wp_bnd (wp_some ⟨rfl, e2, ?_, ?_⟩)
  · have F : Fr LT8 I (upd4 (upd4 I 8 0 0 2 x) 8 0 0 2 y) := (Fr.up (by simp [LT8])).tr (Fr.up (by simp [LT8]))
    exact GR_t h F (fun f _ hf => by show upd4 (upd4 I 8 0 0 2 x) 8 0 0 2 y 8 0 0 f = _; rw [u_if, if_neg (fun q => hf q.2), u_if, if_neg (fun q => hf q.2)])
  · have F : Fr LT8 I (upd4 (upd4 I 8 0 0 2 x) 8 0 0 2 y) := (Fr.up (by simp [LT8])).tr (Fr.up (by simp [LT8]))
    exact LT8_kr F
theorem r_code {I : Mem} {a : Abs} (h : GR I a) (x : Int32) : GR (upd4 I 8 0 0 2 x) a ∧ Kr I (upd4 I 8 0 0 2 x) := by
  have F : Fr LT8 I (upd4 I 8 0 0 2 x) := Fr.up (by simp [LT8])
  exact ⟨GR_t h F (fun f _ hf => by rw [u_if, if_neg (fun q => hf q.2)]), LT8_kr F⟩
section
variable {I : Mem} {P : PMem} {l : Nat} {a : Abs}
theorem q_town (hA : AOK a) (h : GC I P l a) (v : Int32) : f_X7_requireTown I P v = some (if inR v (lT (yL a)) = true then Sum.inl () else Sum.inr 1) := by
  obtain ⟨⟨p1, p2, p3⟩, c1, _⟩ := h
  unfold f_X7_requireTown f_X7_requireTown_15
  rw [p1, gd_t (dlt p2), c1.2.1]
  by_cases e : v < 0
  · have : inR v (lT (yL a)) = false := by unfold inR; simp [(fa_of_lt e).2.1]
    rw [if_pos e, this]; rfl
  · rw [if_neg e]
    by_cases e2 : v < nI (lT (yL a))
    · rw [if_pos e2, if_pos ((inR_lt e).mp e2)]
    · rw [if_neg e2, if_neg (fun q => e2 ((inR_lt e).mpr q))]
theorem q_judge (hA : AOK a) (h : GC I P l a) (v : Int32) : f_X7_requireJudge I P v = some (if inR v (lJ (yL a)) = true then Sum.inl () else Sum.inr 1) := by
  obtain ⟨⟨p1, p2, p3⟩, c1, _⟩ := h
  unfold f_X7_requireJudge f_X7_requireJudge_15
  rw [p1, gd_t (dlt p2), c1.1.1]
  by_cases e : v < 0
  · have : inR v (lJ (yL a)) = false := by unfold inR; simp [(fa_of_lt e).2.1]
    rw [if_pos e, this]; rfl
  · rw [if_neg e]
    by_cases e2 : v < nI (lJ (yL a))
    · rw [if_pos e2, if_pos ((inR_lt e).mp e2)]
    · rw [if_neg e2, if_neg (fun q => e2 ((inR_lt e).mpr q))]
theorem q_case (hA : AOK a) (h : GC I P l a) (v : Int32) : f_X7_requireCase I P v = some (if inR v (lC (yL a)) = true then Sum.inl () else Sum.inr 1) := by
  obtain ⟨⟨p1, p2, p3⟩, c1, _⟩ := h
  unfold f_X7_requireCase f_X7_requireCase_15
  rw [p1, gd_t (dlt p2), c1.2.2.1]
  by_cases e : v < 0
  · have : inR v (lC (yL a)) = false := by unfold inR; simp [(fa_of_lt e).2.1]
    rw [if_pos e, this]; rfl
  · rw [if_neg e]
    by_cases e2 : v < nI (lC (yL a))
    · rw [if_pos e2, if_pos ((inR_lt e).mp e2)]
    · rw [if_neg e2, if_neg (fun q => e2 ((inR_lt e).mpr q))]
theorem q_outside (I : Mem) (v : Int32) {n : Nat} (hn : n + 1 < 2 ^ 31) : f_X7_isOutside I v (nI n) = some (bI (!inR v (n + 1))) := by
  have k := (inS (v := v) (n := n)).resolve_right (by omega)
  unfold f_X7_isOutside
  rw [← k]
  by_cases e : v < 0
  · simp [e, (fa_of_lt e).2.1, bI]
  · have := fa_of_nlt e
    by_cases e2 : v ≤ nI n
    · simp [e, e2, this, bI]
    · simp [e, e2, bI]
theorem q_what (I : Mem) (v : Int32) {n : Nat} (hn : n + 1 < 2 ^ 31) : f_X7_requireWhat I v (nI n) = some (if inR v (n + 1) = true then Sum.inl () else Sum.inr 1) := by
  unfold f_X7_requireWhat
  rw [q_outside I v hn, Option.bind_some]
  cases inR v (n + 1) <;> rfl
theorem r_town (hA : AOK a) (h : GR I a) (v : Int32) : f_X8_isTown I v = some (bI (inR v (lT (yL a)))) := by
  unfold f_X8_isTown
  rw [h.1.2.2.2.2.1]; exact r_in hA.1.1 v
theorem r_judge (hA : AOK a) (h : GR I a) (v : Int32) : f_X8_isJudge I v = some (bI (inR v (lJ (yL a)))) := by
  unfold f_X8_isJudge
  rw [h.1.1]; exact r_in (by have := hA.1.2.1; omega) v
theorem r_case (hA : AOK a) (h : GR I a) (v : Int32) : f_X8_isCase I v = some (bI (inR v (lC (yL a)))) := by
  unfold f_X8_isCase
  rw [h.1.2.2.2.2.2.1]; exact r_in (by have := hA.1.2.2.1; omega) v
end
