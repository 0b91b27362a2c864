/-! pairs of calls: when, round -/
theorem Fr.upd {S : List (Nat × Nat)} {I I' : Mem} {c z r i : Nat} {v : Int32} (F : Fr S I I') : Fr S (upd4 I c z r i v) (upd4 I' c z r i v) := fun c' z' => by
  rcases F c' z' with h | h
  · exact Or.inl h
  · right
    funext r' i'
    unfold upd4
    rw [h]
theorem u_tw {I : Mem} {c z r i : Nat} {v w : Int32} : upd4 (upd4 I c z r i v) c z r i w = upd4 I c z r i w := by
  funext c' z' r' i'
  unfold upd4
  split <;> rfl
def bDay (B : Ben) (j : Nat) (d : Int32) : Ben := ((fun k => if k = j then d else bd0 B k), binns B, bnf B, bf1 B, bf2 B, bf3 B, bnl B, bgt B, bg2 B, bg3 B, bn B, bw1 B, bwt B, bw3 B)
section
variable {I : Mem} {P : PMem} {l : Nat} {a : Abs} {O : Nat → Int64} {D : Bool} {n : Nat}
theorem bDay_ok (hA : AOK a) {j d : Nat} (hd : d ≤ 60) : BOK (yL a) (bDay (xB (yE a)) j (nI d)) := by
  obtain ⟨h1, h2⟩ := A_BOK hA
  refine ⟨fun k hk => ?_, h2⟩
  show 0 ≤ (if k = j then nI d else bd0 (xB (yE a)) k).toInt ∧ (if k = j then nI d else bd0 (xB (yE a)) k).toInt ≤ 60
  by_cases e : k = j
  · rw [if_pos e, nI_toInt (by omega)]; omega
  · rw [if_neg e]; exact h1 k hk
abbrev dyW (a : Abs) (j d : Nat) : Nat → Nat → Int32 := dyB (yL a) (fun _ => false) (bd0 (bDay (xB (yE a)) j (nI d)))
def nbw (a : Abs) (j d : Nat) : Nat := gcn (yL a) (xB (yE a)) (tw0 (yL a)) (dyW a j d) (binns (xB (yE a))) (qdf (yL a)) 0 (-1)
/-- settled on trial, and counted -/
theorem q_try {tw : Nat → Nat → Nat} {dy : Nat → Nat → Int32} (hA : AOK a) (hS : SOK (yL a) tw dy) (h : GC I P l a) (hT : ldT I P l a tw dy) {Q : Int32 × Mem → Prop}
    (hQ : ∀ I2, Fr (TRI l) I I2 → Fr (LSt 1 l) I I2 → Q (nI (gcn (yL a) (xB (yE a)) tw dy (binns (xB (yE a))) (qdf (yL a)) 0 (-1)), I2)) :
    wp ((f_X1_settle P 1 I).bind fun y2 => (f_X1_howManyGuilty y2 P 1).bind fun y3 => some (y3, y2)) Q := by
  refine wp_bind (q_settle hA.1 (A_BOK hA) hS h.2.1 h.2.2.1.1 hT.2.2.2 hT.1 hT.2.1 hT.2.2.1) ?_
  rintro I2 ⟨F2, v2, t2⟩
  have e3 : I2 3 (P 1 1 0 0) 0 13 = nI (lC (yL a)) := by rw [F2.gc (c := 3) (by simp [LSt]), hT.1]; exact h.2.1.2.2.1
  refine wp_bindE _ (c_many (I := I2) (P := P) (z := 1) hT.2.2.2.1 e3 hA.1.2.2.1 t2) (wp_some ?_)
  have := hQ I2 (F2.sub (by simp [TRI, LSt])) F2
  unfold gcn at this
  simp only [more0] at this
  exact this
theorem c_when_33 (hA : AOK a) {j : Nat} (hj : j < lJ (yL a)) {v2 : Int32} : ∀ m fu d I1 s, d + m = 61 → m < fu → GC I1 P l a → P 1 1 0 0 = l → P 1 1 0 1 = 0 → I1 1 1 0 2 = qdf (yL a) →
    (∀ k, k < lJ (yL a) → k ≠ j → ∀ i, i < lns (yL a) k → I1 12 1 k i = nI (tw0 (yL a) k i) ∧ I1 14 1 k i = dy0 (yL a) (xB (yE a)) k i) →
    wp (f_X7_when_33 fu I1 P (nI j) v2 s.1 s.2 (nI d)) (fun y => ∃ I2, y = Sum.inl (if v2 = 0 then (bfl (fun _ => true) (nbw a j) d m s).1 else (bfl (fun _ => true) (nbw a j) d m s).2, I2, P) ∧ GC I2 P l a ∧ Fr (TRI l) I1 I2) := by
  have hJ5 := hA.1.2.1
  have hT9 := hA.1.1
  intro m
  induction m with
  | zero =>
    intro fu d I1 s hk hf hC hP0 hP1 hdf hst
    obtain ⟨g, rfl⟩ := Nat.exists_eq_succ_of_ne_zero (by omega : fu ≠ 0)
    unfold f_X7_when_33
    refine wp_pos (by rw [show (60 : Int32) = nI 60 from rfl, nI_ltI (by omega) (by omega)]; omega) ?_
    exact wp_ite (fun q => wp_some ⟨I1, by rw [if_pos q]; rfl, hC, Fr.rfl⟩) (fun q => wp_some ⟨I1, by rw [if_neg q]; rfl, hC, Fr.rfl⟩)
  | succ m ih =>
    intro fu d I1 s hk hf hC hP0 hP1 hdf hst
    obtain ⟨g, rfl⟩ := Nat.exists_eq_succ_of_ne_zero (by omega : fu ≠ 0)
    have ⟨⟨p1, p2, p3⟩, c1, c2, _⟩ := hC
    have S := B_SOK hA.1 (bDay_ok (j := j) hA (by omega : d ≤ 60)).1 (fun _ => false)
    unfold f_X7_when_33
    refine wp_neg (by rw [show (60 : Int32) = nI 60 from rfl, nI_ltI (by omega) (by omega)]; omega) ?_
    refine wp_bind (c_sendOut (P := P) (z := 1) (b := false) hP0 p2 hj (nI d) c1.1) ?_
    rintro I2 ⟨F2, a2, n2⟩
    have F2' : Fr (TRI l) I1 I2 := F2.sub (by simp [TRI])
    have hC2 := GC_tr (P' := P) hC F2' (fun _ _ _ => rfl)
    have df2 : I2 1 1 0 2 = qdf (yL a) := by rw [F2.g (c := 1) (z := 1) (by simp)]; exact hdf
    have hT2 : ldT I2 P l a (tw0 (yL a)) (dyW a j d) := by
      refine ⟨hP0, hP1, df2, ?_⟩
      have lA2 := hC2.2.1.1
      unfold cJ
      rw [hP0]
      refine ⟨p2, lA2.1, lA2.2.1, fun k hk => ⟨(lA2.2.2.1 k hk).1, (lA2.2.2.1 k hk).2.2⟩, fun k hk i hi => ?_⟩
      have tlt : tw0 (yL a) k i < 9 := by have : tw0 (yL a) k i < lT (yL a) := (lA2.2.2.2.1 k hk i hi).2; omega
      by_cases e : k = j
      · subst e
        obtain ⟨q1, q2⟩ := a2 i hi
        refine ⟨q1, q2.trans ?_, tlt⟩
        show dys _ _ _ _ = dys _ _ (if k = k then nI d else bd0 (xB (yE a)) k) _
        rw [if_pos rfl]; rfl
      · obtain ⟨q1, q2⟩ := n2 k i e
        obtain ⟨q3, q4⟩ := hst k hk e i hi
        refine ⟨q1.trans q3, (q2.trans q4).trans ?_, tlt⟩
        show dys _ _ (bd0 (xB (yE a)) k) _ = dys _ _ (if k = j then nI d else bd0 (xB (yE a)) k) _
        rw [if_neg e]
    obtain ⟨⟨y, I3⟩, e3, r3, F3, F3'⟩ := q_try (Q := fun r => r.1 = nI (nbw a j d) ∧ Fr (TRI l) I2 r.2 ∧ Fr (LSt 1 l) I2 r.2) hA S hC2 hT2 (fun I2 h1 h2 => ⟨rfl, h1, h2⟩)
    have r3' : y = nI (nbw a j d) := r3
    have F3b : Fr (LSt 1 l) I2 I3 := F3'
    have F13 : Fr (TRI l) I1 I3 := F2'.tr F3
    have hC3 := GC_tr (P' := P) hC F13 (fun _ _ _ => rfl)
    have go : ∀ s', s' = bst (fun _ => true) (nbw a j) d s → wp (f_X7_when_33 g I3 P (nI j) v2 s'.1 s'.2 (nI (d + 1))) (fun y => ∃ I2, y = Sum.inl (if v2 = 0 then (bfl (fun _ => true) (nbw a j) d (m + 1) s).1 else (bfl (fun _ => true) (nbw a j) d (m + 1) s).2, I2, P) ∧ GC I2 P l a ∧ Fr (TRI l) I1 I2) := by
      intro s' hs'
      rw [bfl, ← hs']
      refine wp_mono (ih g (d + 1) I3 s' (by omega) (by omega) hC3 hP0 hP1 (by rw [F3b.g (c := 1) (z := 1) (by simp [LSt])]; exact df2) ?_) ?_
      · intro k hk e i hi
        rw [F3b.g (c := 12) (z := 1) (by simp [LSt]), F3b.g (c := 14) (z := 1) (by simp [LSt]), (n2 k i e).1, (n2 k i e).2]
        exact hst k hk e i hi
      · rintro y ⟨I4, y1, y2, y3⟩
        exact ⟨I4, y1, y2, F13.tr y3⟩
    obtain ⟨I2b, eb, e3b⟩ := Option.bind_eq_some_iff.mp e3
    obtain ⟨yb, ec, e3c⟩ := Option.bind_eq_some_iff.mp e3b
    cases e3c
    rw [eb, Option.bind_some, ec, Option.bind_some, r3', nI_1]
    refine wp_ite (fun q2 => go s ?_) (fun q2 => go (nI d, nI (nbw a j d)) ?_)
    · unfold bst
      rw [if_pos rfl, if_neg (fun h => (fa_of_lt h).2.1 q2)]
    · unfold bst
      rw [if_pos rfl, if_pos (fa_of_nle q2)]
theorem r_when_48 (hA : AOK a) {j : Nat} (hj : j < lJ (yL a)) {v2 : Int32} : ∀ m fu d I1 s, d + m = 61 → m < fu → sR (upd4 I1 53 0 0 j (bd0 (xB (yE a)) j)) a →
    wp (f_X8_when_48 fu I1 (nI j) v2 (bd0 (xB (yE a)) j) s.1 s.2 (nI d)) (fun w => w.1 = (if v2 = 0 then (bfl (fun _ => true) (nbw a j) d m s).1 else (bfl (fun _ => true) (nbw a j) d m s).2) ∧ sR w.2 a ∧ Kr I1 w.2) := by
  have hJ5 := hA.1.2.1
  intro m
  induction m with
  | zero =>
    intro fu d I1 s hk hf hR
    obtain ⟨g, rfl⟩ := Nat.exists_eq_succ_of_ne_zero (by omega : fu ≠ 0)
    unfold f_X8_when_48
    refine wp_pos (by rw [show (60 : Int32) = nI 60 from rfl, nI_ltI (by omega) (by omega)]; omega) (wp_gd (inb_n (by omega)) (wp_bnd ?_))
    rw [nI_clamp (by omega)]
    have K : Kr I1 (upd4 I1 53 0 0 j (bd0 (xB (yE a)) j)) := (Fr.up (S := [(53, 0)]) (by simp)).kr (by simp)
    exact wp_ite (fun q => wp_some ⟨by rw [if_pos q]; rfl, hR, K⟩) (fun q => wp_some ⟨by rw [if_neg q]; rfl, hR, K⟩)
  | succ m ih =>
    intro fu d I1 s hk hf hR
    obtain ⟨g, rfl⟩ := Nat.exists_eq_succ_of_ne_zero (by omega : fu ≠ 0)
    obtain ⟨g0, g2, g40, g41, g42, g43⟩ := hR
    have u : ∀ c (v : Int32), c ≠ 53 → upd4 I1 53 0 0 j v c = I1 c := fun c v hc => u_c hc
    have FL : Fr [(53, 0)] (upd4 I1 53 0 0 j (bd0 (xB (yE a)) j)) (upd4 I1 53 0 0 j (nI d)) := by
      have := Fr.up (S := [(53, 0)]) (I := upd4 I1 53 0 0 j (bd0 (xB (yE a)) j)) (c := 53) (z := 0) (r := 0) (i := j) (v := nI d) (by simp)
      rwa [u_tw] at this
    unfold f_X8_when_48
    refine wp_neg (by rw [show (60 : Int32) = nI 60 from rfl, nI_ltI (by omega) (by omega)]; omega) (wp_gd (inb_n (by omega)) (wp_bnd ?_))
    rw [nI_clamp (by omega)]
    have rl := RL_fr g0.1 FL (by simp)
    have rb : RB (upd4 I1 53 0 0 j (nI d)) (lJ (yL a)) (bDay (xB (yE a)) j (nI d)) := by
      obtain ⟨x1, x2, x3, x4, x5⟩ := g0.2.1.1
      refine ⟨fun k hk => ?_, ?_, ?_, ?_, ?_⟩
      · show _ = (if k = j then nI d else bd0 (xB (yE a)) k)
        rw [u_if]
        by_cases e : k = j
        · rw [if_pos ⟨rfl, e⟩, if_pos e]
        · rw [if_neg (fun q => e q.2), if_neg e]
          have := x1 k hk
          rw [u_if, if_neg (fun q => e q.2)] at this
          exact this
      · rw [u 8 _ (by omega)] at x2 ⊢; exact x2
      · unfold rR at x3 ⊢; rw [u 8 _ (by omega), u 62 _ (by omega)] at x3 ⊢; exact x3
      · unfold rR at x4 ⊢; rw [u 8 _ (by omega), u 63 _ (by omega)] at x4 ⊢; exact x4
      · unfold rR at x5 ⊢; rw [u 8 _ (by omega), u 64 _ (by omega)] at x5 ⊢; exact x5
    rw [u 8 _ (by omega)] at g2 g40 g41 g42 g43
    refine wp_bind (r_tell (B := bDay (xB (yE a)) j (nI d)) (bw := -1) (df := qdf (yL a)) (mu := 0) (mc := -1) hA.1 (bDay_ok hA (by omega : d ≤ 60)) (bw' := fun _ => false) (bwf0 hA) rl rb (by rw [u 8 _ (by omega)]; exact g40) (by rw [u 8 _ (by omega)]; exact g41) (by rw [u 8 _ (by omega)]; exact g42) (by rw [u 8 _ (by omega)]; exact g43)) ?_
    rintro ⟨y, I2⟩ ⟨F2', y1, _, _⟩
    have F2 : Fr LT (upd4 I1 53 0 0 j (nI d)) I2 := F2'
    have y1' : y = nI (nbw a j d) := y1
    have F3 : Fr LT (upd4 I1 53 0 0 j (bd0 (xB (yE a)) j)) (upd4 I2 53 0 0 j (bd0 (xB (yE a)) j)) := by
      have := Fr.upd (c := 53) (z := 0) (r := 0) (i := j) (v := bd0 (xB (yE a)) j) F2
      rwa [u_tw] at this
    have e8 : upd4 I2 53 0 0 j (bd0 (xB (yE a)) j) 8 0 = I1 8 0 := by rw [F3.g (by simp [LT]), u 8 _ (by omega)]
    have hR3 : sR (upd4 I2 53 0 0 j (bd0 (xB (yE a)) j)) a := by
      refine ⟨GR_t g0 (F3.sub (fun x hx => by simp [LT8, hx])) (F3.k8 (by simp [LT])), ?_, ?_, ?_, ?_, ?_⟩
      · rw [e8]; exact g2
      · rw [e8]; exact g40
      · rw [e8]; exact g41
      · rw [e8]; exact g42
      · rw [e8]; exact g43
    have K : Kr I1 I2 := ((Fr.up (S := [(53, 0)]) (by simp)).kr (by simp)).tr (F2.kr (by simp [LT]))
    show wp (if s.2 < y then _ else _) _
    rw [y1', nI_1]
    have go : ∀ s', s' = bst (fun _ => true) (nbw a j) d s → wp (f_X8_when_48 g I2 (nI j) v2 (bd0 (xB (yE a)) j) s'.1 s'.2 (nI (d + 1))) (fun w => w.1 = (if v2 = 0 then (bfl (fun _ => true) (nbw a j) d (m + 1) s).1 else (bfl (fun _ => true) (nbw a j) d (m + 1) s).2) ∧ sR w.2 a ∧ Kr I1 w.2) := by
      intro s' hs'
      rw [bfl, ← hs']
      refine wp_mono (ih g (d + 1) I2 s' (by omega) (by omega) hR3) ?_
      rintro w ⟨w1, w2, w3⟩
      exact ⟨w1, w2, K.tr w3⟩
    refine wp_ite (fun q2 => go (nI d, nI (nbw a j d)) ?_) (fun q2 => go s ?_)
    · unfold bst
      rw [if_pos rfl, if_pos q2]
    · unfold bst
      rw [if_pos rfl, if_neg q2]
theorem u4_same {I : Mem} {c z r i : Nat} {v : Int32} (h : I c z r i = v) : upd4 I c z r i v = I := by
  funext c' z' r' i'
  unfold upd4
  split
  · rename_i q
    obtain ⟨rfl, rfl, rfl, rfl⟩ := q
    exact h.symm
  · rfl
theorem p_when (h : G I P) (v1 v2 : Int32) : Pr (f_L_when I P O D n v1 v2) (fun I => f_X8_when I v1 v2) n := by
  obtain ⟨l, a, hA, hC, hR⟩ := h
  have hJ5 := hA.1.2.1
  obtain ⟨hR0, hK0⟩ := r_code hR 0
  refine L_q hA hC hR ?_
  unfold f_X7_when
  have no : inR v1 (lJ (yL a)) = false ∨ inR v2 2 = false → wp (f_X8_when I v1 v2) (fun w => w.2 8 0 0 2 = 1 ∧ GR w.2 a ∧ Kr I w.2) := by
    intro q
    unfold f_X8_when
    refine wp_bnd (wp_bindE _ (r_judge hA hR0 v1) ?_)
    rw [n_1, ifw (by omega)]
    refine wp_ite (fun _ => r_fail1 hR 1) (fun q1 => wp_neg ?_ (r_fail1 hR 1))
    rcases q with q | q
    · exact absurd (bI_0.mpr q) q1
    · rw [q]; decide
  refine wp_thb (q_judge hA hC v1) (fun b1 => wp_thb (q_what I v2 (n := 1) (by omega)) (fun b2 => ?_) (fun b2 => Or.inr ⟨rfl, no (by simp [b2])⟩)) (fun b1 => Or.inr ⟨rfl, no (by simp [b1])⟩)
  obtain ⟨j, hj, rfl⟩ := inR_t (by omega) b1
  have hC0 := hC
  obtain ⟨⟨p1, p2, p3⟩, c1, _⟩ := hC
  rw [p1]
  refine wp_gd (dlt p2) (wp_bind (q_load1 hA hC0) ?_)
  rintro ⟨I1, P1⟩ ⟨hC1, hT1, F1, hP1⟩
  obtain ⟨t1, t2, t3, t4⟩ := hT1
  refine wp_mono (c_when_33 hA hj (v2 := v2) 61 FU 0 I1 (-1, -1) (by omega) (by unfold FU; omega) hC1 t1 t2 t3 (fun k hk _ i hi => ⟨(t4.2.2.2.2 k hk i hi).1, (t4.2.2.2.2 k hk i hi).2.1⟩)) ?_
  rintro y ⟨I3, y1, hC3, F3⟩
  refine Or.inl ⟨_, I3, P1, y1, hC3, Kc_tr (Fr.tr F1 F3), fun hR3 => ?_⟩
  obtain ⟨hR30, _⟩ := r_code hR3 0
  unfold f_X8_when
  refine wp_bnd (wp_bindE _ (r_judge hA hR30 _) ?_)
  rw [b1, n_1, ifw (by omega)]
  refine wp_neg (by decide) (wp_pos b2 (wp_bind (R_set hA hR3) ?_))
  rintro I4 ⟨h4, k4⟩
  refine wp_gd (inb_n (by omega)) (wp_bnd ?_)
  have e53 : I4 53 0 0 j = bd0 (xB (yE a)) j := h4.1.2.1.1.1 j hj
  rw [nI_clamp (by omega), e53]
  refine wp_mono (r_when_48 hA hj (v2 := v2) 61 FU 0 I4 (-1, -1) (by omega) (by unfold FU; omega) (by rw [u4_same e53]; exact h4)) ?_
  rintro w ⟨w1, w2, w3⟩
  exact ⟨w1, w2.2.1, w2.1, k4.tr w3⟩
theorem p_round (h : G I P) (v1 : Int32) : Pr (f_L_round I P O D n v1) (fun I => f_X8_round I v1) n := by
  obtain ⟨l, a, hA, hC, hR⟩ := h
  have hJ5 := hA.1.2.1
  obtain ⟨hR0, hK0⟩ := r_code hR 0
  refine L_q hA hC hR ?_
  unfold f_X7_round
  refine wp_thb (q_judge hA hC v1) (fun b1 => ?_) (fun b1 => Or.inr ⟨rfl, ?_⟩)
  · obtain ⟨j, hj, rfl⟩ := inR_t (by omega) b1
    have hC0 := hC
    obtain ⟨⟨p1, p2, p3⟩, c1, _⟩ := hC
    rw [p1]
    refine wp_gd (dlt p2) (wp_bind (q_load1 hA hC0) ?_)
    rintro ⟨I1, P1⟩ ⟨hC1, hT1, F1, hP1⟩
    obtain ⟨t1, t2, t3, t4⟩ := hT1
    refine wp_gd (inb_n (by omega)) ?_
    have e9 : I1 9 0 0 j = bd0 (xB (yE a)) j := hC1.2.2.1.1.1 j hj
    show wp ((f_X1_sendOut P1 1 I1 (nI j) (I1 9 0 0 _) 1).bind _) _
    rw [nI_clamp (by omega), e9]
    refine wp_bind (c_sendOut (P := P1) (z := 1) (b := true) t1 p2 hj (bd0 (xB (yE a)) j) hC1.2.1.1) ?_
    rintro I2 ⟨F2, a2, n2⟩
    have F2' : Fr (TRI l) I1 I2 := F2.sub (by simp [TRI])
    have hC2 := GC_tr (P' := P1) hC1 F2' (fun _ _ _ => rfl)
    have df2 : I2 1 1 0 2 = qdf (yL a) := by rw [F2.g (c := 1) (z := 1) (by simp)]; exact t3
    have S := B_SOK hA.1 (A_BOK hA).1 (fun k => decide (k = j))
    have hT2 : ldT I2 P1 l a (twB (yL a) (fun k => decide (k = j))) (dyB (yL a) (fun k => decide (k = j)) (bd0 (xB (yE a)))) := by
      refine ⟨t1, t2, df2, ?_⟩
      have lA2 := hC2.2.1.1
      have t1' : P1 1 1 0 0 = l := t1
      unfold cJ
      rw [t1']
      refine ⟨p2, lA2.1, lA2.2.1, fun k hk => ⟨(lA2.2.2.1 k hk).1, (lA2.2.2.1 k hk).2.2⟩, fun k hk i hi => ?_⟩
      have tlt : twB (yL a) (fun k => decide (k = j)) k i < 9 := by have := S.2 k hk i hi; have := hA.1.1; omega
      by_cases e : k = j
      · subst e
        obtain ⟨q1, q2⟩ := a2 i hi
        have e1 : twB (yL a) (fun k_1 => decide (k_1 = k)) k = roB (lrt (yL a) k) (lns (yL a) k) true := by unfold twB; show roB _ _ (decide (k = k)) = _; rw [decide_eq_true rfl]
        refine ⟨by rw [e1]; exact q1, ?_, tlt⟩
        unfold dyB; rw [e1]; exact q2
      · obtain ⟨q1, q2⟩ := n2 k i e
        obtain ⟨q3, q4, _⟩ := t4.2.2.2.2 k hk i hi
        have e1 : twB (yL a) (fun k => decide (k = j)) k = tw0 (yL a) k := by unfold tw0 twB; show roB _ _ (decide (k = j)) = roB _ _ false; rw [decide_eq_false e]
        refine ⟨by rw [e1]; exact q1.trans q3, ?_, tlt⟩
        unfold dyB; rw [e1]; exact q2.trans q4
    obtain ⟨⟨y, I3⟩, e3, r3, F3⟩ := q_try (Q := fun r => r.1 = nI (gcn (yL a) (xB (yE a)) (twB (yL a) (fun k => decide (k = j))) (dyB (yL a) (fun k => decide (k = j)) (bd0 (xB (yE a)))) (binns (xB (yE a))) (qdf (yL a)) 0 (-1)) ∧ Fr (TRI l) I2 r.2) hA S hC2 hT2 (fun I2 h1 h2 => ⟨rfl, h1⟩)
    have r3' : y = _ := r3
    have F3b : Fr (TRI l) I2 I3 := F3
    obtain ⟨I2b, eb, e3b⟩ := Option.bind_eq_some_iff.mp e3
    obtain ⟨yb, ec, e3c⟩ := Option.bind_eq_some_iff.mp e3b
    cases e3c
    show wp ((f_X1_settle P1 1 I2).bind _) _
    rw [eb, Option.bind_some, show f_X1_howManyGuilty I3 (I1, P1).snd 1 = some y from ec, Option.bind_some]
    have F13 : Fr (TRI l) I1 I3 := F2'.tr F3b
    have hC3 := GC_tr (P' := P1) hC1 F13 (fun _ _ _ => rfl)
    obtain ⟨⟨I4, P4⟩, e4, hC4, hst4, hk4⟩ := s_court hA hC3
    show wp ((f_X7_settledCourt I3 P1).bind _) _
    rw [e4, Option.bind_some, show f_X1_howManyGuilty (I4, P4).fst (I4, P4).snd 0 = _ from q_many hA hC4 hst4, Option.bind_some]
    have hk4' : Kc I3 I4 := hk4
    refine wp_some (Or.inl ⟨_, I4, P4, rfl, hC4, (Kc_tr (Fr.tr F1 F13)).tr hk4', fun hR4 => ?_⟩)
    obtain ⟨hR40, _⟩ := r_code hR4 0
    unfold f_X8_round
    refine wp_bnd (wp_bindE _ (r_judge hA hR40 _) ?_)
    rw [b1]
    refine wp_neg (by decide) (R_tell2 hA hR4 ?_)
    rintro ⟨u, I5⟩ u1 rq rj hR5
    have hR5' : GR I5 a := hR5
    have rq' : qRQ I5 (yL a) (xB (yE a)) (tw0 (yL a)) (dy0 (yL a) (xB (yE a))) (qmt (yL a) (xB (yE a)) (tw0 (yL a)) (dy0 (yL a) (xB (yE a))) (binns (xB (yE a)))) (qdf (yL a)) 0 (-1) := rq
    have t5 : T8 I5 (upd4 I5 8 0 0 40 (nI j)) := T8.up (by omega)
    have hR6 := GR_t hR5' t5.1 t5.2.1
    refine wp_bnd ?_
    refine wp_bind (r_tell (B := xB (yE a)) (bw := nI j) (df := qdf (yL a)) (mu := 0) (mc := -1) hA.1 (A_BOK hA) (bw' := fun k => decide (k = j)) (fun k hk => ?_) hR6.1 hR6.2.1.1 u_at ?_ ?_ ?_) ?_
    · unfold bwf; apply decide_eq_decide.mpr; rw [nI_eq (by omega) (by omega)]
    · rw [u_if, if_neg (by omega)]; exact rq'.2.2.2.2.2.1
    · rw [u_if, if_neg (by omega)]; exact rq'.2.2.2.2.2.2.1
    · rw [u_if, if_neg (by omega)]; exact rq'.2.2.2.2.2.2.2.1
    · rintro ⟨y6, I6⟩ ⟨F6, y61, _, _⟩
      have y61' : y6 = _ := y61
      have u1' : u = _ := u1
      refine wp_some ⟨?_, t5.tr (T8.of F6 (fun x hx => hx))⟩
      show y6 - u = y - _
      rw [y61', u1', r3']
  · unfold f_X8_round
    refine wp_bnd (wp_bindE _ (r_judge hA hR0 v1) ?_)
    rw [b1]
    exact wp_pos rfl (r_fail1 hR 1)
end
