/-! pairs of calls: game -/
def gst (rs : Nat → Nat → Bool) (x y : Nat) (s : Nat × Int32) : Nat × Int32 := if rs x y = true then (s.1 + 1, if s.2 = -1 then nI (10 * x + y) else s.2) else s
def gl2 (rs : Nat → Nat → Bool) (x : Nat) : Nat → Nat → Nat × Int32 → Nat × Int32
  | _, 0, s => s
  | k, m + 1, s => gl2 rs x (k + 1) m (gst rs x k s)
def gl1 (rs : Nat → Nat → Bool) (J : Nat) : Nat → Nat → Nat × Int32 → Nat × Int32
  | _, 0, s => s
  | k, m + 1, s => gl1 rs J (k + 1) m (gl2 rs k 0 J s)
/-- neither gains by going over -/
def rst (gm : Nat → Nat → Bool) (J x y : Nat) : Bool := !ex (fun k => if gm x y = true then !gm x k else gm k y) 0 J
section
variable {I : Mem} {P : PMem} {l : Nat} {a : Abs} {O : Nat → Int64} {D : Bool} {n : Nat}
def gmq (a : Abs) (c x y : Nat) : Bool := !decide ((qtr (yL a) (xB (yE a)) (tw0 (yL a)) (dy0 (yL a) (xB (yE a))) (binns (xB (yE a))) (jshl 1 (nI y)) (qdf (yL a) ||| jshl 1 (nI x)) c).1 = 0)
theorem GC_26 {I' : Mem} (h : GC I P l a) (F : Fr [(26, 0)] I I') : GC I' P l a := by
  refine GC_w h F (by simp) (fun f _ => by rw [F.g (c := 7) (z := 0) (by simp)]) ⟨rfl, rfl⟩ ?_
  rw [F.g (c := 7) (z := 0) (by simp)]
  rcases h.2.2.2.2.2.2.2 with q | ⟨q, s1, s2, s3, s4, s5, s6⟩
  · exact Or.inl q
  · refine Or.inr ⟨q, s1, s2, ?_, cJ_fr s4 F (by simp), vS_fr s5 F (by simp), ?_⟩
    · rw [F.g (c := 1) (z := 0) (by simp)]; exact s3
    · rw [F.g (c := 24) (z := 0) (by simp)]; exact s6
theorem stl_26 {I' : Mem} (h : stl I P 0 l (yL a) (xB (yE a))) (F : Fr [(26, 0)] I I') : stl I' P 0 l (yL a) (xB (yE a)) := by
  obtain ⟨s1, s2, s3, s4, s5, s6⟩ := h
  refine ⟨s1, s2, ?_, cJ_fr s4 F (by simp), vS_fr s5 F (by simp), ?_⟩
  · rw [F.g (c := 1) (z := 0) (by simp)]; exact s3
  · rw [F.g (c := 24) (z := 0) (by simp)]; exact s6
theorem c_play_22 (hA : AOK a) {c x : Nat} (hc : c < lC (yL a)) (hx : x < lJ (yL a)) {k2 : Mem → Int32 → Int32 → Option Mem} {Q : Mem → Prop} : ∀ m fu k I1 w, k + m = lJ (yL a) → m < fu → stl I1 P 0 l (yL a) (xB (yE a)) → I1 26 0 0 x = w →
    (∀ I2, Fr [(26, 0)] I1 I2 → I2 26 0 0 x = bs (gmq a c x) k m w → (∀ y, y ≠ x → I2 26 0 0 y = I1 26 0 0 y) → wp (k2 I2 (nI c) (nI (x + 1))) Q) →
    wp (f_X1_playGame_22 k2 P 0 fu I1 (nI c) (nI x) (nI k)) Q := by
  have hC6 := hA.1.2.2.1
  have hJ5 := hA.1.2.1
  intro m
  induction m with
  | zero =>
    intro fu k I1 w hk hf hst hw hK
    obtain ⟨g, rfl⟩ := Nat.exists_eq_succ_of_ne_zero (by omega : fu ≠ 0)
    obtain ⟨s1, s2, s3, s4, s5, s6⟩ := hst
    unfold f_X1_playGame_22
    rw [s4.2.1, nI_1]
    exact wp_gd (dlt s4.1) (wp_pos (by rw [nI_leI (by omega) (by omega)]; omega) (hK I1 Fr.rfl hw (fun _ _ => rfl)))
  | succ m ih =>
    intro fu k I1 w hk hf hst hw hK
    obtain ⟨g, rfl⟩ := Nat.exists_eq_succ_of_ne_zero (by omega : fu ≠ 0)
    have ⟨s1, s2, s3, s4, s5, s6⟩ := hst
    unfold f_X1_playGame_22
    rw [s4.2.1, s3, nI_1, nI_1]
    refine wp_gd (dlt s4.1) (wp_neg (by rw [nI_leI (by omega) (by omega)]; omega) ?_)
    refine wp_bindE _ (c_trioWith (I := I1) (P := P) s4 s5 hC6 hc (jshl 1 (nI k)) (qdf (yL a) ||| jshl 1 (nI x))) ?_
    have ed : (trv (lJ (yL a)) (qtl (yL a) (xB (yE a)) (tw0 (yL a)) (dy0 (yL a) (xB (yE a)))) (qsd (yL a) (xB (yE a)) (tw0 (yL a)) (dy0 (yL a) (xB (yE a)))) (qst (yL a) (xB (yE a)) (tw0 (yL a)) (dy0 (yL a) (xB (yE a)))) (qgv (yL a) (xB (yE a)) (tw0 (yL a)) (dy0 (yL a) (xB (yE a)))) (qrc (yL a) (xB (yE a)) (tw0 (yL a)) (dy0 (yL a) (xB (yE a)))) (qmt (yL a) (xB (yE a)) (tw0 (yL a)) (dy0 (yL a) (xB (yE a))) (binns (xB (yE a)))) (jshl 1 (nI k)) (qdf (yL a) ||| jshl 1 (nI x)) c).1 = (qtr (yL a) (xB (yE a)) (tw0 (yL a)) (dy0 (yL a) (xB (yE a))) (binns (xB (yE a))) (jshl 1 (nI k)) (qdf (yL a) ||| jshl 1 (nI x)) c).1 := rfl
    rw [ed]
    refine wp_ite (fun q => ?_) (fun q => wp_gd (inb_n (by omega)) (wp_bnd ?_))
    · refine ih g (k + 1) I1 w (by omega) (by omega) hst hw (fun I2 F2 e2 n2 => hK I2 F2 ?_ n2)
      rw [e2, bs, if_neg]
      unfold gmq; rw [decide_eq_true q]; decide
    · rw [nI_clamp (by omega), hw]
      have F : Fr [(26, 0)] I1 (upd4 I1 26 0 0 x (w ||| jshl 1 (nI k))) := Fr.up (by simp)
      refine ih g (k + 1) _ (w ||| jshl 1 (nI k)) (by omega) (by omega) (stl_26 hst F) u_at (fun I2 F2 e2 n2 => hK I2 (F.tr F2) ?_ (fun y hy => ?_))
      · rw [e2, bs, if_pos]
        unfold gmq; rw [decide_eq_false q]; decide
      · rw [n2 y hy, u_if, if_neg (fun q => hy q.2)]
theorem c_play_2 (hA : AOK a) {c : Nat} (hc : c < lC (yL a)) : ∀ m fu k I1, k + m = lJ (yL a) → m < fu → stl I1 P 0 l (yL a) (xB (yE a)) → (∀ x, x < k → I1 26 0 0 x = bs (gmq a c x) 0 (lJ (yL a)) 0) →
    wp (f_X1_playGame_2 P 0 fu I1 (nI c) (nI k)) (fun I2 => Fr [(26, 0)] I1 I2 ∧ ∀ x, x < lJ (yL a) → I2 26 0 0 x = bs (gmq a c x) 0 (lJ (yL a)) 0) := by
  have hJ5 := hA.1.2.1
  intro m
  induction m with
  | zero =>
    intro fu k I1 hk hf hst hh
    obtain ⟨g, rfl⟩ := Nat.exists_eq_succ_of_ne_zero (by omega : fu ≠ 0)
    obtain ⟨s1, s2, s3, s4, s5, s6⟩ := hst
    have hk' : k = lJ (yL a) := by omega
    subst hk'
    unfold f_X1_playGame_2
    rw [s4.2.1]
    exact wp_gd (dlt s4.1) (wp_pos (by rw [nI_leI (by omega) (by omega)]; omega) (wp_some ⟨Fr.rfl, hh⟩))
  | succ m ih =>
    intro fu k I1 hk hf hst hh
    obtain ⟨g, rfl⟩ := Nat.exists_eq_succ_of_ne_zero (by omega : fu ≠ 0)
    have ⟨s1, s2, s3, s4, s5, s6⟩ := hst
    unfold f_X1_playGame_2
    rw [s4.2.1]
    refine wp_gd (dlt s4.1) (wp_neg (by rw [nI_leI (by omega) (by omega)]; omega) (wp_gd (inb_n (by omega)) (wp_bnd ?_)))
    rw [nI_clamp (by omega)]
    have F : Fr [(26, 0)] I1 (upd4 I1 26 0 0 k 0) := Fr.up (by simp)
    refine c_play_22 (l := l) hA hc (by omega : k < lJ (yL a)) (lJ (yL a)) FU 0 _ 0 (by omega) (by unfold FU; omega) (stl_26 hst F) u_at ?_
    intro I2 F2 e2 n2
    refine wp_mono (ih g (k + 1) I2 (by omega) (by omega) (stl_26 (stl_26 hst F) F2) ?_) ?_
    · intro x hx
      by_cases e : x = k
      · rw [e]; exact e2
      · rw [n2 x e, u_if, if_neg (fun q => e q.2)]; exact hh x (by omega)
    · rintro r ⟨A, C⟩
      exact ⟨(F.tr F2).tr A, C⟩
theorem c_rests_14 (hA : AOK a) {gm : Nat → Nat → Bool} {I1 : Mem} (s4 : cJ I1 P 0 (lJ (yL a)) (lns (yL a)) (tw0 (yL a)) (dy0 (yL a) (xB (yE a)))) (h26 : ∀ x, x < lJ (yL a) → I1 26 0 0 x = bs (gm x) 0 (lJ (yL a)) 0) {x y : Nat} (hx : x < lJ (yL a)) (hy : y < lJ (yL a)) : ∀ m fu k, k + m = lJ (yL a) → m < fu →
    f_X1_rests_14 I1 P 0 fu (nI x) (nI y) (bI (gm x y)) (nI k) = some (bI (!ex (fun k => if gm x y = true then !gm x k else gm k y) k m)) := by
  have hJ5 := hA.1.2.1
  have bq : ∀ u v, u < lJ (yL a) → v < lJ (yL a) → jushr (I1 26 0 0 u) (nI v) &&& 1 = bI (gm u v) := by
    intro u v hu hv
    rw [h26 u hu, ush1 (by omega), bt_bs _ _ _ _ _ (by omega) (by omega), b_0]
    simp only [Nat.zero_add, Nat.zero_le, decide_true, Bool.true_and, Bool.false_or, hv]
  intro m
  induction m with
  | zero =>
    intro fu k hk hf
    obtain ⟨g, rfl⟩ := Nat.exists_eq_succ_of_ne_zero (by omega : fu ≠ 0)
    unfold f_X1_rests_14
    rw [gd_t (dlt s4.1), s4.2.1, if_pos (by rw [nI_leI (by omega) (by omega)]; omega)]; rfl
  | succ m ih =>
    intro fu k hk hf
    obtain ⟨g, rfl⟩ := Nat.exists_eq_succ_of_ne_zero (by omega : fu ≠ 0)
    have b1 := bq k y (by omega) hy
    have b2 := bq x k hx (by omega)
    unfold f_X1_rests_14
    rw [gd_t (dlt s4.1), s4.2.1, if_neg (by rw [nI_leI (by omega) (by omega)]; omega), gd_t (inb_n (by omega)), nI_clamp (by omega), nI_clamp (by omega), b1, gd_t (inb_n (by omega)), b2, nI_1, ih g (k + 1) (by omega) (by omega), ex]
    cases gm x y <;> cases gm k y <;> cases gm x k <;> rfl
theorem c_rests (hA : AOK a) {gm : Nat → Nat → Bool} {I1 : Mem} (s4 : cJ I1 P 0 (lJ (yL a)) (lns (yL a)) (tw0 (yL a)) (dy0 (yL a) (xB (yE a)))) (h26 : ∀ x, x < lJ (yL a) → I1 26 0 0 x = bs (gm x) 0 (lJ (yL a)) 0) {x y : Nat} (hx : x < lJ (yL a)) (hy : y < lJ (yL a)) :
    f_X1_rests I1 P 0 (nI x) (nI y) = some (bI (rst gm (lJ (yL a)) x y)) := by
  have hJ5 := hA.1.2.1
  have bq : jushr (I1 26 0 0 x) (nI y) &&& 1 = bI (gm x y) := by
    rw [h26 x hx, ush1 (by omega), bt_bs _ _ _ _ _ (by omega) (by omega), b_0]
    simp only [Nat.zero_add, Nat.zero_le, decide_true, Bool.true_and, Bool.false_or, hy]
  unfold f_X1_rests
  rw [gd_t (inb_n (by omega)), nI_clamp (by omega), bnd_e, bq]
  exact c_rests_14 hA s4 h26 hx hy (lJ (yL a)) FU 0 (by omega) (by unfold FU; omega)
theorem n_10 : (10 : Int32) = nI 10 := rfl
theorem c_game_44 (hA : AOK a) {rs : Nat → Nat → Bool} {I1 : Mem} (hC1 : GC I1 P l a) (hr : ∀ x y, x < lJ (yL a) → y < lJ (yL a) → f_X1_rests I1 P 0 (nI x) (nI y) = some (bI (rs x y))) {x : Nat} (hx : x < lJ (yL a)) {v2 : Int32} {k29 : Mem → PMem → Int32 → Int32 → Int32 → Int32 → Option ((Int32 × Mem × PMem) ⊕ Nat)} : ∀ m fu k s, k + m = lJ (yL a) → m < fu →
    f_X7_game_44 k29 fu I1 P v2 (nI s.1) s.2 (nI x) (nI k) = k29 I1 P v2 (nI (gl2 rs x k m s).1) (gl2 rs x k m s).2 (nI (x + 1)) := by
  have hJ5 := hA.1.2.1
  obtain ⟨⟨p1, p2, p3⟩, c1, _⟩ := hC1
  intro m
  induction m with
  | zero =>
    intro fu k s hk hf
    obtain ⟨g, rfl⟩ := Nat.exists_eq_succ_of_ne_zero (by omega : fu ≠ 0)
    unfold f_X7_game_44
    rw [p1, gd_t (dlt p2), c1.1.1, if_pos (by rw [nI_leI (by omega) (by omega)]; omega), nI_1]; rfl
  | succ m ih =>
    intro fu k s hk hf
    obtain ⟨g, rfl⟩ := Nat.exists_eq_succ_of_ne_zero (by omega : fu ≠ 0)
    unfold f_X7_game_44
    rw [p1, gd_t (dlt p2), c1.1.1, if_neg (by rw [nI_leI (by omega) (by omega)]; omega), hr x k hx (by omega), Option.bind_some, nI_1, nI_1, n_10, idx_n, bnd_e, gl2, gst]
    rw [ih g (k + 1) s (by omega) (by omega)]
    have i1 := ih g (k + 1) (s.1 + 1, nI (10 * x + k)) (by omega) (by omega)
    have i2 := ih g (k + 1) (s.1 + 1, s.2) (by omega) (by omega)
    cases rs x k
    · rfl
    · rw [if_neg (by decide), if_pos rfl]
      by_cases e : s.2 = -1
      · rw [if_pos e, if_pos e]; exact i1
      · rw [if_neg e, if_neg e]; exact i2
theorem c_game_29 (hA : AOK a) {rs : Nat → Nat → Bool} {I1 : Mem} (hC1 : GC I1 P l a) (hr : ∀ x y, x < lJ (yL a) → y < lJ (yL a) → f_X1_rests I1 P 0 (nI x) (nI y) = some (bI (rs x y))) {v2 : Int32} : ∀ m fu k s, k + m = lJ (yL a) → m < fu →
    f_X7_game_29 fu I1 P v2 (nI s.1) s.2 (nI k) = some (Sum.inl (if v2 = 0 then nI (gl1 rs (lJ (yL a)) k m s).1 else (gl1 rs (lJ (yL a)) k m s).2, I1, P)) := by
  have hJ5 := hA.1.2.1
  have hC0 := hC1
  obtain ⟨⟨p1, p2, p3⟩, c1, _⟩ := hC1
  intro m
  induction m with
  | zero =>
    intro fu k s hk hf
    obtain ⟨g, rfl⟩ := Nat.exists_eq_succ_of_ne_zero (by omega : fu ≠ 0)
    unfold f_X7_game_29
    rw [p1, gd_t (dlt p2), c1.1.1, if_pos (by rw [nI_leI (by omega) (by omega)]; omega), gl1]
    by_cases e : v2 = 0
    · rw [if_pos e, if_pos e]
    · rw [if_neg e, if_neg e]
  | succ m ih =>
    intro fu k s hk hf
    obtain ⟨g, rfl⟩ := Nat.exists_eq_succ_of_ne_zero (by omega : fu ≠ 0)
    unfold f_X7_game_29
    rw [p1, gd_t (dlt p2), c1.1.1, if_neg (by rw [nI_leI (by omega) (by omega)]; omega)]
    have := c_game_44 hA hC0 hr (by omega : k < lJ (yL a)) (v2 := v2) (k29 := f_X7_game_29 g) (lJ (yL a)) FU 0 s (by omega) (by unfold FU; omega)
    exact this.trans (ih g (k + 1) _ (by omega) (by omega))
/-! the reference's game -/
theorem r_gb (hA : AOK a) {c x y : Nat} (hc : c < lC (yL a)) (hx : x < lJ (yL a)) (hy : y < lJ (yL a)) {I3 : Mem} {mu mc : Int32} (rq : qRQ I3 (yL a) (xB (yE a)) (tw0 (yL a)) (dy0 (yL a) (xB (yE a))) (qmt (yL a) (xB (yE a)) (tw0 (yL a)) (dy0 (yL a) (xB (yE a))) (binns (xB (yE a)))) (qdf (yL a)) mu mc) :
    wp (f_X8_isGuiltyBy I3 (nI c) (nI x) (nI y)) (fun r => r.1 = bI (gmq a c x y) ∧ T8 I3 r.2 ∧ ∃ mu mc, qRQ r.2 (yL a) (xB (yE a)) (tw0 (yL a)) (dy0 (yL a) (xB (yE a))) (qmt (yL a) (xB (yE a)) (tw0 (yL a)) (dy0 (yL a) (xB (yE a))) (binns (xB (yE a)))) (qdf (yL a)) mu mc) := by
  have hC6 := hA.1.2.2.1
  have S := B_SOK hA.1 (A_BOK hA).1 (fun _ => false)
  have e41 : I3 8 0 0 41 = qdf (yL a) := rq.2.2.2.2.2.1
  unfold f_X8_isGuiltyBy
  refine wp_bnd (wp_bnd (wp_bnd (wp_bnd ?_)))
  rw [e41]
  have r1 := rQ_up rq 41 (qdf (yL a) ||| jshl 1 (nI x)) (by omega)
  have r2 := rQ_up r1 43 (nI c) (by omega)
  have r3 := rQ_up r2 42 (jshl 1 (nI y)) (by omega)
  refine wp_bind (r_jq hA.1 (A_BOK hA) S r3 hc) ?_
  rintro I4 ⟨t4, r4, d4⟩
  refine wp_bnd (wp_gd (inb_n (by omega)) ?_)
  rw [nI_clamp (by omega), u_c (show (75 : Nat) ≠ 8 by decide)]
  have t : T8 I3 (upd4 I4 8 0 0 41 (qdf (yL a))) := ((((T8.up (by omega)).tr (T8.up (by omega))).tr (T8.up (by omega))).tr t4).tr (T8.up (by omega))
  have r5 := rQ_up r4 41 (qdf (yL a)) (by omega)
  have d5 : I4 75 0 0 c < 100000 ↔ ¬ (qtr (yL a) (xB (yE a)) (tw0 (yL a)) (dy0 (yL a) (xB (yE a))) (binns (xB (yE a))) (jshl 1 (nI y)) (qdf (yL a) ||| jshl 1 (nI x)) c).1 = 0 := by
    have em : more (jshl 1 (nI y)) (nI c) c = jshl 1 (nI y) := if_pos rfl
    have d6 : I4 75 0 0 c < 100000 ↔ ¬ (qtr (yL a) (xB (yE a)) (tw0 (yL a)) (dy0 (yL a) (xB (yE a))) (binns (xB (yE a))) (more (jshl 1 (nI y)) (nI c) c) (qdf (yL a) ||| jshl 1 (nI x)) c).1 = 0 := d4
    rw [em] at d6; exact d6
  refine wp_ite (fun q => wp_some ⟨?_, t, _, _, r5⟩) (fun q => wp_some ⟨?_, t, _, _, r5⟩)
  · have : (qtr (yL a) (xB (yE a)) (tw0 (yL a)) (dy0 (yL a) (xB (yE a))) (binns (xB (yE a))) (jshl 1 (nI y)) (qdf (yL a) ||| jshl 1 (nI x)) c).1 = 0 := Decidable.not_not.mp (fun h => (fa_of_lt (d5.mpr h)).2.1 q)
    unfold gmq; rw [decide_eq_true this]; rfl
  · have : ¬ (qtr (yL a) (xB (yE a)) (tw0 (yL a)) (dy0 (yL a) (xB (yE a))) (binns (xB (yE a))) (jshl 1 (nI y)) (qdf (yL a) ||| jshl 1 (nI x)) c).1 = 0 := d5.mp (fa_of_nle q)
    unfold gmq; rw [decide_eq_false this]; rfl
theorem r_game_83 (hA : AOK a) {c x y : Nat} (hc : c < lC (yL a)) (hx : x < lJ (yL a)) (hy : y < lJ (yL a)) {v2 : Int32} {s : Nat × Int32} {k55 : Mem → Int32 → Int32 → Int32 → Int32 → Int32 → Int32 → Option (Int32 × Mem)} {Q : Int32 × Mem → Prop} : ∀ m fu k I3 (b : Bool) mu mc, k + m = lJ (yL a) → m < fu → qRQ I3 (yL a) (xB (yE a)) (tw0 (yL a)) (dy0 (yL a) (xB (yE a))) (qmt (yL a) (xB (yE a)) (tw0 (yL a)) (dy0 (yL a) (xB (yE a))) (binns (xB (yE a)))) (qdf (yL a)) mu mc →
    (∀ I4 mu mc, T8 I3 I4 → qRQ I4 (yL a) (xB (yE a)) (tw0 (yL a)) (dy0 (yL a) (xB (yE a))) (qmt (yL a) (xB (yE a)) (tw0 (yL a)) (dy0 (yL a) (xB (yE a))) (binns (xB (yE a)))) (qdf (yL a)) mu mc → wp (f_X8_game_141 k55 I4 (nI c) v2 (nI s.1) s.2 (nI x) (nI y) (bI (b && !ex (fun k => if gmq a c x y = true then !gmq a c x k else gmq a c k y) k m))) Q) →
    wp (f_X8_game_83 k55 fu I3 (nI c) v2 (nI s.1) s.2 (nI x) (nI y) (bI (gmq a c x y)) (bI b) (nI k)) Q := by
  have hJ5 := hA.1.2.1
  intro m
  induction m with
  | zero =>
    intro fu k I3 b mu mc hk hf rq hK
    obtain ⟨g, rfl⟩ := Nat.exists_eq_succ_of_ne_zero (by omega : fu ≠ 0)
    unfold f_X8_game_83
    rw [rq.1.1]
    refine wp_pos (by rw [nI_leI (by omega) (by omega)]; omega) ?_
    have := hK I3 mu mc T8.rfl rq
    rw [ex, Bool.not_false, Bool.and_true] at this
    exact this
  | succ m ih =>
    intro fu k I3 b mu mc hk hf rq hK
    obtain ⟨g, rfl⟩ := Nat.exists_eq_succ_of_ne_zero (by omega : fu ≠ 0)
    unfold f_X8_game_83
    rw [rq.1.1]
    refine wp_neg (by rw [nI_leI (by omega) (by omega)]; omega) (wp_ite (fun q => ?_) (fun q => ?_))
    · have eb := bI_0.mp q
      have := hK I3 mu mc T8.rfl rq
      rw [eb, Bool.false_and] at this
      rw [eb]; exact this
    · have eb : b = true := by
        cases b
        · exact absurd rfl q
        · rfl
      rw [nI_1]
      have go : ∀ I4 mu mc (b' : Bool), T8 I3 I4 → qRQ I4 (yL a) (xB (yE a)) (tw0 (yL a)) (dy0 (yL a) (xB (yE a))) (qmt (yL a) (xB (yE a)) (tw0 (yL a)) (dy0 (yL a) (xB (yE a))) (binns (xB (yE a)))) (qdf (yL a)) mu mc → b' = !(if gmq a c x y = true then !gmq a c x k else gmq a c k y) → wp (f_X8_game_83 k55 g I4 (nI c) v2 (nI s.1) s.2 (nI x) (nI y) (bI (gmq a c x y)) (bI b') (nI (k + 1))) Q := by
        intro I4 mu mc b' t4 r4 hb'
        refine ih g (k + 1) I4 b' mu mc (by omega) (by omega) r4 (fun I5 mu mc t5 r5 => ?_)
        have := hK I5 mu mc (t4.tr t5) r5
        rw [eb, Bool.true_and, ex, Bool.not_or] at this
        rw [hb']; exact this
      refine wp_ite (fun q2 => ?_) (fun q2 => ?_)
      · have eg := bI_0.mp q2
        refine wp_bind (r_gb hA hc (by omega : k < lJ (yL a)) hy rq) ?_
        rintro ⟨w, I4⟩ ⟨w1, t4, mu', mc', r4⟩
        have w1' : w = bI (gmq a c k y) := w1
        show wp (if w = 0 then _ else _) _
        rw [w1']
        refine wp_ite (fun q3 => go I4 _ _ true t4 r4 ?_) (fun q3 => go I4 _ _ false t4 r4 ?_)
        · rw [eg, if_neg (by decide), bI_0.mp q3]; rfl
        · have : gmq a c k y = true := by
            cases e : gmq a c k y
            · exact absurd (bI_0.mpr e) q3
            · rfl
          rw [eg, if_neg (by decide), this]; rfl
      · have eg : gmq a c x y = true := by
          cases e : gmq a c x y
          · exact absurd (bI_0.mpr e) q2
          · rfl
        refine wp_bind (r_gb hA hc hx (by omega : k < lJ (yL a)) rq) ?_
        rintro ⟨w, I4⟩ ⟨w1, t4, mu', mc', r4⟩
        have w1' : w = bI (gmq a c x k) := w1
        show wp (f_X8_game_83 k55 g I4 (nI c) v2 (nI s.1) s.2 (nI x) (nI y) (bI (gmq a c x y)) w (nI (k + 1))) _
        rw [w1']
        refine go I4 _ _ _ t4 r4 ?_
        rw [eg, if_pos rfl, Bool.not_not]
theorem r_game_55 (hA : AOK a) {c x : Nat} (hc : c < lC (yL a)) (hx : x < lJ (yL a)) {v2 : Int32} {k41 : Mem → Int32 → Int32 → Int32 → Int32 → Int32 → Option (Int32 × Mem)} {Q : Int32 × Mem → Prop} : ∀ m fu k I3 s mu mc, k + m = lJ (yL a) → m < fu → qRQ I3 (yL a) (xB (yE a)) (tw0 (yL a)) (dy0 (yL a) (xB (yE a))) (qmt (yL a) (xB (yE a)) (tw0 (yL a)) (dy0 (yL a) (xB (yE a))) (binns (xB (yE a)))) (qdf (yL a)) mu mc →
    (∀ I4 mu mc, T8 I3 I4 → qRQ I4 (yL a) (xB (yE a)) (tw0 (yL a)) (dy0 (yL a) (xB (yE a))) (qmt (yL a) (xB (yE a)) (tw0 (yL a)) (dy0 (yL a) (xB (yE a))) (binns (xB (yE a)))) (qdf (yL a)) mu mc → wp (k41 I4 (nI c) v2 (nI (gl2 (rst (gmq a c) (lJ (yL a))) x k m s).1) (gl2 (rst (gmq a c) (lJ (yL a))) x k m s).2 (nI (x + 1))) Q) →
    wp (f_X8_game_55 k41 fu I3 (nI c) v2 (nI s.1) s.2 (nI x) (nI k)) Q := by
  have hJ5 := hA.1.2.1
  intro m
  induction m with
  | zero =>
    intro fu k I3 s mu mc hk hf rq hK
    obtain ⟨g, rfl⟩ := Nat.exists_eq_succ_of_ne_zero (by omega : fu ≠ 0)
    unfold f_X8_game_55
    rw [rq.1.1, nI_1]
    exact wp_pos (by rw [nI_leI (by omega) (by omega)]; omega) (hK I3 mu mc T8.rfl rq)
  | succ m ih =>
    intro fu k I3 s mu mc hk hf rq hK
    obtain ⟨g, rfl⟩ := Nat.exists_eq_succ_of_ne_zero (by omega : fu ≠ 0)
    unfold f_X8_game_55
    rw [rq.1.1]
    refine wp_neg (by rw [nI_leI (by omega) (by omega)]; omega) ?_
    refine wp_bind (r_gb hA hc hx (by omega : k < lJ (yL a)) rq) ?_
    rintro ⟨w, I4⟩ ⟨w1, t4, mu', mc', r4⟩
    have w1' : w = bI (gmq a c x k) := w1
    show wp (f_X8_game_83 (f_X8_game_55 k41 g) FU I4 (nI c) v2 (nI s.1) s.2 (nI x) (nI k) w 1 0) _
    rw [w1']
    refine r_game_83 hA hc hx (by omega : k < lJ (yL a)) (lJ (yL a)) FU 0 I4 true mu' mc' (by omega) (by unfold FU; omega) r4 ?_
    intro I5 mu5 mc5 t5 r5
    rw [Bool.true_and]
    have go : ∀ s', s' = gst (rst (gmq a c) (lJ (yL a))) x k s → wp (f_X8_game_55 k41 g I5 (nI c) v2 (nI s'.1) s'.2 (nI x) (nI (k + 1))) Q := by
      intro s' hs'
      refine ih g (k + 1) I5 s' mu5 mc5 (by omega) (by omega) r5 (fun I6 mu6 mc6 t6 r6 => ?_)
      have := hK I6 mu6 mc6 ((t4.tr t5).tr t6) r6
      rw [gl2, ← hs'] at this
      exact this
    have er : (!ex (fun k_1 => if gmq a c x k = true then !gmq a c x k_1 else gmq a c k_1 k) 0 (lJ (yL a))) = rst (gmq a c) (lJ (yL a)) x k := rfl
    rw [er]
    unfold f_X8_game_141
    rw [n_10, idx_n, nI_1, nI_1]
    refine wp_ite (fun q => ?_) (fun q => ?_)
    · exact go s (by unfold gst; rw [bI_0.mp q]; rfl)
    · have e1 : rst (gmq a c) (lJ (yL a)) x k = true := by
        cases e : rst (gmq a c) (lJ (yL a)) x k
        · exact absurd (bI_0.mpr e) q
        · rfl
      refine wp_ite (fun q2 => wp_bnd ?_) (fun q2 => ?_)
      · exact go (s.1 + 1, nI (10 * x + k)) (by unfold gst; rw [e1, if_pos rfl, if_pos q2])
      · exact go (s.1 + 1, s.2) (by unfold gst; rw [e1, if_pos rfl, if_neg q2])
theorem r_game_41 (hA : AOK a) {c : Nat} (hc : c < lC (yL a)) {v2 : Int32} : ∀ m fu k I3 s mu mc, k + m = lJ (yL a) → m < fu → qRQ I3 (yL a) (xB (yE a)) (tw0 (yL a)) (dy0 (yL a) (xB (yE a))) (qmt (yL a) (xB (yE a)) (tw0 (yL a)) (dy0 (yL a) (xB (yE a))) (binns (xB (yE a)))) (qdf (yL a)) mu mc →
    wp (f_X8_game_41 fu I3 (nI c) v2 (nI s.1) s.2 (nI k)) (fun w => w.1 = (if v2 = 0 then nI (gl1 (rst (gmq a c) (lJ (yL a))) (lJ (yL a)) k m s).1 else (gl1 (rst (gmq a c) (lJ (yL a))) (lJ (yL a)) k m s).2) ∧ T8 I3 w.2) := by
  have hJ5 := hA.1.2.1
  intro m
  induction m with
  | zero =>
    intro fu k I3 s mu mc hk hf rq
    obtain ⟨g, rfl⟩ := Nat.exists_eq_succ_of_ne_zero (by omega : fu ≠ 0)
    unfold f_X8_game_41
    rw [rq.1.1]
    refine wp_pos (by rw [nI_leI (by omega) (by omega)]; omega) (wp_ite (fun q => wp_some ⟨by rw [if_pos q]; rfl, T8.rfl⟩) (fun q => wp_some ⟨by rw [if_neg q]; rfl, T8.rfl⟩))
  | succ m ih =>
    intro fu k I3 s mu mc hk hf rq
    obtain ⟨g, rfl⟩ := Nat.exists_eq_succ_of_ne_zero (by omega : fu ≠ 0)
    unfold f_X8_game_41
    rw [rq.1.1]
    refine wp_neg (by rw [nI_leI (by omega) (by omega)]; omega) ?_
    refine r_game_55 hA hc (by omega : k < lJ (yL a)) (lJ (yL a)) FU 0 I3 s mu mc (by omega) (by unfold FU; omega) rq ?_
    intro I4 mu' mc' t4 r4
    refine wp_mono (ih g (k + 1) I4 _ mu' mc' (by omega) (by omega) r4) ?_
    rintro w ⟨w1, w2⟩
    exact ⟨w1, t4.tr w2⟩
theorem p_game (h : G I P) (v1 v2 : Int32) : Pr (f_L_game I P O D n v1 v2) (fun I => f_X8_game I v1 v2) n := by
  obtain ⟨l, a, hA, hC, hR⟩ := h
  have hC6 := hA.1.2.2.1
  have hJ5 := hA.1.2.1
  obtain ⟨hR0, hK0⟩ := r_code hR 0
  refine L_q hA hC hR ?_
  unfold f_X7_game
  have no : inR v1 (lC (yL a)) = false ∨ inR v2 2 = false → wp (f_X8_game I v1 v2) (fun w => w.2 8 0 0 2 = 1 ∧ GR w.2 a ∧ Kr I w.2) := by
    intro q
    unfold f_X8_game
    refine wp_bnd (wp_bindE _ (r_case hA hR0 v1) ?_)
    rw [n_1, ifw (by omega)]
    refine wp_ite (fun _ => r_fail1 hR 1) (fun q1 => wp_neg ?_ (r_fail1 hR 1))
    rcases q with q | q
    · exact absurd (bI_0.mpr q) q1
    · rw [q]; decide
  refine wp_thb (q_case hA hC v1) (fun b1 => wp_thb (q_what I v2 (n := 1) (by omega)) (fun b2 => ?_) (fun b2 => Or.inr ⟨rfl, no (by simp [b2])⟩)) (fun b1 => Or.inr ⟨rfl, no (by simp [b1])⟩)
  obtain ⟨c, hc, rfl⟩ := inR_t (by omega) b1
  refine Q_court hA hC ?_
  intro I1 P1 hC1 hst
  show wp ((f_X1_playGame P1 0 I1 (nI c)).bind _) _
  unfold f_X1_playGame
  refine wp_bind (c_play_2 (l := l) hA hc (lJ (yL a)) FU 0 I1 (by omega) (by unfold FU; omega) hst (fun x hx => absurd hx (Nat.not_lt_zero x))) ?_
  rintro I2 ⟨F2, h26⟩
  have hC2 := GC_26 hC1 F2
  have st2 := stl_26 hst F2
  have ec := c_game_29 (rs := rst (gmq a c) (lJ (yL a))) hA hC2 (fun x y hx hy => c_rests hA st2.2.2.2.1 h26 hx hy) (v2 := v2) (lJ (yL a)) FU 0 (0, -1) (by omega) (by unfold FU; omega)
  refine wp_of ec ⟨_, I2, P1, rfl, hC2, F2.kc (by simp), fun hR2 => ?_⟩
  obtain ⟨hR20, _⟩ := r_code hR2 0
  unfold f_X8_game
  refine wp_bnd (wp_bindE _ (r_case hA hR20 _) ?_)
  rw [b1, n_1, ifw (by omega)]
  refine wp_neg (by decide) (wp_pos b2 (R_tell2 hA hR2 ?_))
  rintro ⟨u, I3⟩ _ rq rj _
  exact r_game_41 hA hc (lJ (yL a)) FU 0 I3 (0, -1) 0 (-1) (by omega) (by unfold FU; omega) rq
end
