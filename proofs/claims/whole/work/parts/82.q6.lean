/-! pairs of calls: soonest, deaf, mercy -/
def T8 (I I' : Mem) : Prop := Fr LT8 I I' ∧ K8 I I' ∧ I' 8 0 0 2 = I 8 0 0 2
theorem T8.rfl {I : Mem} : T8 I I := ⟨Fr.rfl, K8.rfl, _root_.rfl⟩
theorem T8.tr {I I' I'' : Mem} (h : T8 I I') (h2 : T8 I' I'') : T8 I I'' := ⟨h.1.tr h2.1, h.2.1.tr h2.2.1, h2.2.2.trans h.2.2⟩
theorem T8.of {S : List (Nat × Nat)} {I I' : Mem} (F : Fr S I I') (h : ∀ x, x ∈ S → x ∈ LT) : T8 I I' := by
  have h8 : ¬ (8, 0) ∈ S := fun q => by have := h _ q; simp [LT] at this
  exact ⟨F.sub (fun x hx => by simp [LT8, h x hx]), F.k8 h8, by rw [F.g h8]⟩
theorem T8.up {I : Mem} {f : Nat} {x : Int32} (h : 40 ≤ f ∧ f ≤ 43) : T8 I (upd4 I 8 0 0 f x) := by
  refine ⟨Fr.up (by simp [LT8]), fun g hg _ => ?_, ?_⟩
  · rw [u_if, if_neg (fun q => by omega)]
  · rw [u_if, if_neg (fun q => by omega)]
section
variable {I : Mem} {P : PMem} {l : Nat} {a : Abs} {O : Nat → Int64} {D : Bool} {n : Nat}
theorem R_tell2 {k : Int32 × Mem → Option (Int32 × Mem)} {v : Int32} (hA : AOK a) (hR : GR I a)
    (hk : ∀ r : Int32 × Mem, r.1 = nI (gcn (yL a) (xB (yE a)) (tw0 (yL a)) (dy0 (yL a) (xB (yE a))) (binns (xB (yE a))) (qdf (yL a)) 0 (-1)) → qRQ r.2 (yL a) (xB (yE a)) (tw0 (yL a)) (dy0 (yL a) (xB (yE a))) (qmt (yL a) (xB (yE a)) (tw0 (yL a)) (dy0 (yL a) (xB (yE a))) (binns (xB (yE a)))) (qdf (yL a)) 0 (-1) → jud r.2 (yL a) (xB (yE a)) (tw0 (yL a)) (dy0 (yL a) (xB (yE a))) (binns (xB (yE a))) (qdf (yL a)) 0 (-1) → GR r.2 a →
      wp (k r) (fun w => w.1 = v ∧ T8 r.2 w.2)) :
    wp ((f_X8_tellNow (upd4 I 8 0 0 2 0)).bind k) (fun w => w.1 = v ∧ w.2 8 0 0 2 = 0 ∧ GR w.2 a ∧ Kr I w.2) := by
  obtain ⟨hR0, hK0⟩ := r_code hR 0
  refine wp_bind (s_tell hA hR0) ?_
  rintro r ⟨r1, r2, r3, F, K, e2, _⟩
  have hR1 := GR_t hR0 F K
  refine wp_mono (hk r r1 r2 r3 hR1) ?_
  rintro w ⟨w1, w2, w3, w4⟩
  exact ⟨w1, by rw [w4, e2]; exact code0 I, GR_t hR1 w2 w3, (hK0.tr (LT8_kr F)).tr (LT8_kr w2)⟩
/-! soonest -/
def sn0 (f d : Int32) : Int32 := if d = -1 then f else if f = -1 then d else if f ≤ d then f else d
def sn1 (f d : Int32) : Int32 := if d = -1 then f else if f = -1 then d else if d ≤ f then f else d
def snf (s : Int32 → Int32 → Int32) (dv : Nat → Int32) : Nat → Nat → Int32 → Int32
  | _, 0, f => f
  | k, m + 1, f => snf s dv (k + 1) m (s f (dv k))
def dvB (x : Int32) : Prop := x = -1 ∨ (0 ≤ x.toInt ∧ x.toInt ≤ 114)
theorem sn0_B {f d : Int32} (hf : dvB f) (hd : dvB d) : dvB (sn0 f d) := by unfold sn0; (repeat' split) <;> assumption
theorem sn1_B {f d : Int32} (hf : dvB f) (hd : dvB d) : dvB (sn1 f d) := by unfold sn1; (repeat' split) <;> assumption
theorem nv_B {x : Int32} (h : 0 ≤ x.toInt) : nv x = x := if_neg (ne_m1 h)
theorem sn0_min {f d : Int32} (hf : dvB f) (hd : dvB d) : jmin (nv f) (nv d) = nv (sn0 f d) := by
  unfold sn0 jmin
  rcases hd with rfl | hd
  · rw [if_pos rfl, show nv (-1) = nI 100000 from rfl]
    rw [if_neg]
    rcases hf with rfl | hf
    · decide
    · rw [nv_B hf.1, fa_lt, nI_toInt (by omega)]; omega
  · rw [if_neg (ne_m1 hd.1), nv_B hd.1]
    rcases hf with rfl | hf
    · rw [if_pos rfl, show nv (-1) = nI 100000 from rfl, if_pos (by rw [fa_lt, nI_toInt (by omega)]; omega), nv_B hd.1]
    · rw [if_neg (ne_m1 hf.1), nv_B hf.1]
      by_cases e : f ≤ d
      · rw [if_pos e, if_neg (fun h => (fa_of_lt h).2.1 e), nv_B hf.1]
      · rw [if_neg e, if_pos (fa_of_nle e), nv_B hd.1]
theorem sn1_max {f d : Int32} (hf : dvB f) (hd : dvB d) : jmax f d = sn1 f d := by
  unfold sn1 jmax
  rcases hd with rfl | hd
  · rw [if_pos rfl, if_neg]
    rcases hf with rfl | hf
    · decide
    · rw [fa_lt, m1_toInt]; omega
  · rw [if_neg (ne_m1 hd.1)]
    rcases hf with rfl | hf
    · rw [if_pos rfl, if_pos (by rw [fa_lt, m1_toInt]; omega)]
    · rw [if_neg (ne_m1 hf.1)]
      by_cases e : d ≤ f
      · rw [if_pos e, if_neg (fun h => (fa_of_lt h).2.1 e)]
      · rw [if_neg e, if_pos (fa_of_nle e)]
def dvq (a : Abs) (c : Nat) : Int32 := (qtr (yL a) (xB (yE a)) (tw0 (yL a)) (dy0 (yL a) (xB (yE a))) (binns (xB (yE a))) 0 (qdf (yL a)) c).2
theorem dvq_B (hA : AOK a) {c : Nat} (hc : c < lC (yL a)) : dvB (dvq a c) ∧ (dvq a c = -1 ↔ (qtr (yL a) (xB (yE a)) (tw0 (yL a)) (dy0 (yL a) (xB (yE a))) (binns (xB (yE a))) 0 (qdf (yL a)) c).1 = 0) := by
  have S := B_SOK hA.1 (A_BOK hA).1 (fun _ => false)
  have hsd := q_sdW (B := xB (yE a)) S
  have hJ5 := hA.1.2.1
  rcases trv_b (gv := qgv (yL a) (xB (yE a)) (tw0 (yL a)) (dy0 (yL a) (xB (yE a)))) (mt := qmt (yL a) (xB (yE a)) (tw0 (yL a)) (dy0 (yL a) (xB (yE a))) (binns (xB (yE a)))) (more' := 0) (df := qdf (yL a)) (rc := qrc (yL a) (xB (yE a)) (tw0 (yL a)) (dy0 (yL a) (xB (yE a)))) hsd hc with e | e | e
  · exact ⟨Or.inl e.2, fun _ => e.1, fun _ => e.2⟩
  · exact ⟨Or.inr e.2, fun q => absurd q (ne_m1 e.2.1), fun q => absurd q e.1⟩
  · omega
theorem c_soon_15 (hA : AOK a) {I1 : Mem} {P1 : PMem} (hC1 : GC I1 P1 l a) (hst : stl I1 P1 0 l (yL a) (xB (yE a))) (v1 : Int32) : ∀ m fu k f, k + m = lC (yL a) → m < fu →
    f_X7_soonest_15 fu I1 P1 v1 f (nI k) = some (Sum.inl (snf (if v1 = 0 then sn0 else sn1) (dvq a) k m f, I1, P1)) := by
  have hC6 := hA.1.2.2.1
  have S := B_SOK hA.1 (A_BOK hA).1 (fun _ => false)
  have hsd := q_sdW (B := xB (yE a)) S
  obtain ⟨⟨p1, p2, p3⟩, c1, _⟩ := hC1
  obtain ⟨s1, s2, s3, s4, s5, s6⟩ := hst
  have h13 := c1.2.2.1
  intro m
  induction m with
  | zero =>
    intro fu k f hk hf
    obtain ⟨g, rfl⟩ := Nat.exists_eq_succ_of_ne_zero (by omega : fu ≠ 0)
    unfold f_X7_soonest_15
    rw [p1, gd_t (dlt p2), h13, if_pos (by rw [nI_leI (by omega) (by omega)]; omega)]; rfl
  | succ m ih =>
    intro fu k f hk hf
    obtain ⟨g, rfl⟩ := Nat.exists_eq_succ_of_ne_zero (by omega : fu ≠ 0)
    have e := c_tday (I := I1) (P := P1) s4 hC6 s5 (by omega : k < lC (yL a)) (s6 k (by omega)) (fun j hj ht => ((hsd k (by omega) j hj).1 ht).1)
    unfold f_X7_soonest_15
    rw [p1, gd_t (dlt p2), h13, if_neg (by rw [nI_leI (by omega) (by omega)]; omega), e, Option.bind_some, nI_1]
    have ed : (trv (lJ (yL a)) (qtl (yL a) (xB (yE a)) (tw0 (yL a)) (dy0 (yL a) (xB (yE a)))) (qsd (yL a) (xB (yE a)) (tw0 (yL a)) (dy0 (yL a) (xB (yE a)))) (qst (yL a) (xB (yE a)) (tw0 (yL a)) (dy0 (yL a) (xB (yE a)))) (qgv (yL a) (xB (yE a)) (tw0 (yL a)) (dy0 (yL a) (xB (yE a)))) (qrc (yL a) (xB (yE a)) (tw0 (yL a)) (dy0 (yL a) (xB (yE a)))) (qmt (yL a) (xB (yE a)) (tw0 (yL a)) (dy0 (yL a) (xB (yE a))) (binns (xB (yE a)))) 0 (qdf (yL a)) k).2 = dvq a k := rfl
    rw [ed, ih g (k + 1) f (by omega) (by omega), ih g (k + 1) (dvq a k) (by omega) (by omega), snf]
    by_cases q1 : dvq a k = -1
    · rw [if_pos q1]
      by_cases q : v1 = 0
      · rw [if_pos q, sn0, if_pos q1]
      · rw [if_neg q, sn1, if_pos q1]
    · rw [if_neg q1]
      by_cases q2 : f = -1
      · rw [if_pos q2]
        by_cases q : v1 = 0
        · rw [if_pos q, sn0, if_neg q1, if_pos q2]
        · rw [if_neg q, sn1, if_neg q1, if_pos q2]
      · rw [if_neg q2]
        by_cases q : v1 = 0
        · rw [if_pos q, if_pos q, sn0, if_neg q1, if_neg q2]
          by_cases q3 : f ≤ dvq a k
          · rw [if_pos q3, if_pos q3]
          · rw [if_neg q3, if_neg q3]
        · rw [if_neg q, if_neg q, sn1, if_neg q1, if_neg q2]
          by_cases q3 : dvq a k ≤ f
          · rw [if_pos q3, if_pos q3]
          · rw [if_neg q3, if_neg q3]
theorem r_soon_33 (hA : AOK a) {I3 : Mem} (hC : I3 50 0 0 5 = nI (lC (yL a))) (rj : jud I3 (yL a) (xB (yE a)) (tw0 (yL a)) (dy0 (yL a) (xB (yE a))) (binns (xB (yE a))) (qdf (yL a)) 0 (-1)) (v1 : Int32) : ∀ m fu k f g', k + m = lC (yL a) → m < fu → dvB f → dvB g' →
    f_X8_soonest_33 fu I3 v1 (nv f) g' (nI k) = some (if v1 = 0 then snf sn0 (dvq a) k m f else snf sn1 (dvq a) k m g', I3) := by
  have hC6 := hA.1.2.2.1
  intro m
  induction m with
  | zero =>
    intro fu k f g' hk hf hF hG
    obtain ⟨g, rfl⟩ := Nat.exists_eq_succ_of_ne_zero (by omega : fu ≠ 0)
    unfold f_X8_soonest_33
    rw [hC, if_pos (by rw [nI_leI (by omega) (by omega)]; omega)]
    by_cases q : v1 = 0
    · rw [if_pos q, if_pos q, nv_or]
      · rfl
      · rcases hF with e | e
        · exact Or.inl e
        · right; omega
    · rw [if_neg q, if_neg q]; rfl
  | succ m ih =>
    intro fu k f g' hk hf hF hG
    obtain ⟨g, rfl⟩ := Nat.exists_eq_succ_of_ne_zero (by omega : fu ≠ 0)
    obtain ⟨d1, d2⟩ := dvq_B hA (by omega : k < lC (yL a))
    have e75 : I3 75 0 0 k = nv (dvq a k) := by
      obtain ⟨_, _, j3⟩ := rj k (by omega)
      rw [more0] at j3
      rw [j3]
      by_cases e : (qtr (yL a) (xB (yE a)) (tw0 (yL a)) (dy0 (yL a) (xB (yE a))) (binns (xB (yE a))) 0 (qdf (yL a)) k).1 = 0
      · rw [if_pos e, d2.mpr e]; rfl
      · rw [if_neg e, nv, if_neg (fun q => e (d2.mp q))]; rfl
    unfold f_X8_soonest_33
    rw [hC, if_neg (by rw [nI_leI (by omega) (by omega)]; omega), gd_t (inb_n (by omega)), nI_clamp (by omega), e75, bnd_e, sn0_min hF d1, nv_or, Option.bind_some, bnd_e, sn1_max hG d1, nI_1, ih g (k + 1) _ _ (by omega) (by omega) (sn0_B hF d1) (sn1_B hG d1)]
    · rfl
    · rcases d1 with e | e
      · exact Or.inl e
      · right; omega
theorem p_soonest (h : G I P) (v1 : Int32) : Pr (f_L_soonest I P O D n v1) (fun I => f_X8_soonest I v1) n := by
  obtain ⟨l, a, hA, hC, hR⟩ := h
  have hC6 := hA.1.2.2.1
  obtain ⟨hR0, hK0⟩ := r_code hR 0
  refine L_q hA hC hR ?_
  unfold f_X7_soonest
  refine wp_thb (q_what I v1 (n := 1) (by omega)) (fun b1 => ?_) (fun b1 => Or.inr ⟨rfl, ?_⟩)
  · refine Q_court hA hC ?_
    intro I1 P1 hC1 hst
    refine wp_of (c_soon_15 hA hC1 hst v1 (lC (yL a)) FU 0 (-1) (by omega) (by unfold FU; omega)) ?_
    refine ⟨_, I1, P1, rfl, hC1, Kc.rfl, fun hR1 => ?_⟩
    unfold f_X8_soonest
    refine wp_bnd ?_
    rw [n_1, ifw (by omega)]
    refine wp_pos b1 (R_tell2 hA hR1 ?_)
    rintro ⟨u, I3⟩ _ rq rj _
    have e := r_soon_33 hA (I3 := I3) rq.2.2.2.2.2.2.2.2 rj v1 (lC (yL a)) FU 0 (-1) (-1) (by omega) (by unfold FU; omega) (Or.inl rfl) (Or.inl rfl)
    refine wp_of e ⟨?_, T8.rfl⟩
    by_cases q : v1 = 0
    · rw [if_pos q, if_pos q]; rfl
    · rw [if_neg q, if_neg q]; rfl
  · unfold f_X8_soonest
    refine wp_bnd ?_
    rw [n_1, ifw (by omega)]
    exact wp_neg (by rw [b1]; decide) (r_fail1 hR 1)
/-! deaf -/
theorem c_deaf_15 (hA : AOK a) {I1 : Mem} {P1 : PMem} (hC1 : GC I1 P1 l a) (hst : stl I1 P1 0 l (yL a) (xB (yE a))) (v1 : Int32) : ∀ m fu k f, k + m = lC (yL a) → m < fu →
    f_X7_deaf_15 fu I1 P1 v1 (nI f) (nI k) = some (Sum.inl (nI (f + cn (fun c => !decide ((qtr (yL a) (xB (yE a)) (tw0 (yL a)) (dy0 (yL a) (xB (yE a))) (binns (xB (yE a))) 0 (qdf (yL a) ^^^ jshl 1 v1) c).1 = 0)) k m), I1, P1)) := by
  have hC6 := hA.1.2.2.1
  obtain ⟨⟨p1, p2, p3⟩, c1, _⟩ := hC1
  obtain ⟨s1, s2, s3, s4, s5, s6⟩ := hst
  have h13 := c1.2.2.1
  intro m
  induction m with
  | zero =>
    intro fu k f hk hf
    obtain ⟨g, rfl⟩ := Nat.exists_eq_succ_of_ne_zero (by omega : fu ≠ 0)
    unfold f_X7_deaf_15
    rw [p1, gd_t (dlt p2), h13, if_pos (by rw [nI_leI (by omega) (by omega)]; omega)]; rfl
  | succ m ih =>
    intro fu k f hk hf
    obtain ⟨g, rfl⟩ := Nat.exists_eq_succ_of_ne_zero (by omega : fu ≠ 0)
    have e := c_trioWith (I := I1) (P := P1) s4 s5 hC6 (by omega : k < lC (yL a)) 0 (qdf (yL a) ^^^ jshl 1 v1)
    unfold f_X7_deaf_15
    rw [p1, gd_t (dlt p2), h13, if_neg (by rw [nI_leI (by omega) (by omega)]; omega), s3, e, Option.bind_some, nI_1, nI_1, ih g (k + 1) f (by omega) (by omega), ih g (k + 1) (f + 1) (by omega) (by omega), cn]
    have ed : (trv (lJ (yL a)) (qtl (yL a) (xB (yE a)) (tw0 (yL a)) (dy0 (yL a) (xB (yE a)))) (qsd (yL a) (xB (yE a)) (tw0 (yL a)) (dy0 (yL a) (xB (yE a)))) (qst (yL a) (xB (yE a)) (tw0 (yL a)) (dy0 (yL a) (xB (yE a)))) (qgv (yL a) (xB (yE a)) (tw0 (yL a)) (dy0 (yL a) (xB (yE a)))) (qrc (yL a) (xB (yE a)) (tw0 (yL a)) (dy0 (yL a) (xB (yE a)))) (qmt (yL a) (xB (yE a)) (tw0 (yL a)) (dy0 (yL a) (xB (yE a))) (binns (xB (yE a)))) 0 (qdf (yL a) ^^^ jshl 1 v1) k).1 = (qtr (yL a) (xB (yE a)) (tw0 (yL a)) (dy0 (yL a) (xB (yE a))) (binns (xB (yE a))) 0 (qdf (yL a) ^^^ jshl 1 v1) k).1 := rfl
    rw [ed]
    by_cases q : (qtr (yL a) (xB (yE a)) (tw0 (yL a)) (dy0 (yL a) (xB (yE a))) (binns (xB (yE a))) 0 (qdf (yL a) ^^^ jshl 1 v1) k).1 = 0
    · simp [q]
    · simp [q, Nat.add_assoc]
theorem rQ_up {L : Land} {B : Ben} {tw : Nat → Nat → Nat} {dy : Nat → Nat → Int32} {mt : Nat → Nat → Int32} {df mu mc : Int32} {I3 : Mem} (rq : qRQ I3 L B tw dy mt df mu mc) (f : Nat) (x : Int32) (hf : f = 41 ∨ f = 42 ∨ f = 43) :
    qRQ (upd4 I3 8 0 0 f x) L B tw dy mt (if f = 41 then x else df) (if f = 42 then x else mu) (if f = 43 then x else mc) := by
  obtain ⟨q1, q2, q3, q4, q5, q6, q7, q8, q9⟩ := rq
  have u : ∀ c, c ≠ 8 → upd4 I3 8 0 0 f x c = I3 c := fun c hc => u_c hc
  refine ⟨?_, ?_, ?_, ?_, ?_, ?_, ?_, ?_, ?_⟩
  · unfold rJ; rw [u 50 (by omega), u 55 (by omega), u 68 (by omega), u 69 (by omega)]; exact q1
  · unfold rN; rw [u 50 (by omega), u 61 (by omega)]; exact q2
  · unfold rR; rw [u 62 (by omega), u_if, if_neg (by omega)]; exact q3
  · unfold vR; rw [u 71 (by omega), u 72 (by omega), u 73 (by omega)]; exact q4
  · rw [u 70 (by omega)]; exact q5
  · rw [u_if]
    by_cases e : f = 41
    · rw [if_pos ⟨rfl, e.symm⟩, if_pos e]
    · rw [if_neg (fun q => e q.2.symm), if_neg e]; exact q6
  · rw [u_if]
    by_cases e : f = 42
    · rw [if_pos ⟨rfl, e.symm⟩, if_pos e]
    · rw [if_neg (fun q => e q.2.symm), if_neg e]; exact q7
  · rw [u_if]
    by_cases e : f = 43
    · rw [if_pos ⟨rfl, e.symm⟩, if_pos e]
    · rw [if_neg (fun q => e q.2.symm), if_neg e]; exact q8
  · rw [u 50 (by omega)]; exact q9
theorem p_deaf (h : G I P) (v1 : Int32) : Pr (f_L_deaf I P O D n v1) (fun I => f_X8_deaf I v1) n := by
  obtain ⟨l, a, hA, hC, hR⟩ := h
  have hC6 := hA.1.2.2.1
  have hJ5 := hA.1.2.1
  obtain ⟨hR0, hK0⟩ := r_code hR 0
  refine L_q hA hC hR ?_
  unfold f_X7_deaf
  refine wp_thb (q_judge hA hC v1) (fun b1 => ?_) (fun b1 => Or.inr ⟨rfl, ?_⟩)
  · refine Q_court hA hC ?_
    intro I1 P1 hC1 hst
    have ec := c_deaf_15 hA hC1 hst v1 (lC (yL a)) FU 0 0 (by omega) (by unfold FU; omega)
    rw [Nat.zero_add] at ec
    refine wp_of ec ?_
    refine ⟨_, I1, P1, rfl, hC1, Kc.rfl, fun hR1 => ?_⟩
    obtain ⟨hR10, _⟩ := r_code hR1 0
    unfold f_X8_deaf
    refine wp_bnd (wp_bindE _ (r_judge hA hR10 _) ?_)
    rw [b1]
    refine wp_neg (by decide) (R_tell2 hA hR1 ?_)
    rintro ⟨u, I3⟩ _ rq rj _
    have rq' : qRQ I3 (yL a) (xB (yE a)) (tw0 (yL a)) (dy0 (yL a) (xB (yE a))) _ _ _ _ := rq
    refine wp_bnd ?_
    have e41 : I3 8 0 0 41 = qdf (yL a) := rq'.2.2.2.2.2.1
    show wp ((f_X8_judgeAll (upd4 I3 8 0 0 41 (I3 8 0 0 41 ^^^ jshl 1 v1))).bind _) _
    rw [e41]
    have S := B_SOK hA.1 (A_BOK hA).1 (fun _ => false)
    have rq2 := rQ_up rq' 41 (qdf (yL a) ^^^ jshl 1 v1) (by omega)
    refine wp_bind (r_ja (q_okQ hA.1 (A_BOK hA) S) rq2) ?_
    rintro ⟨w, I4⟩ ⟨F4, w1, _⟩
    refine wp_some ⟨?_, (T8.up (by omega)).tr (T8.of F4 (by simp [LT]))⟩
    have w1' : w = _ := w1
    show w = _
    rw [w1']
    congr 1
    refine cn_cong fun c _ _ => ?_
    rw [show more (if (41 : Nat) = 42 then qdf (yL a) ^^^ jshl 1 v1 else 0) (if (41 : Nat) = 43 then qdf (yL a) ^^^ jshl 1 v1 else -1) c = 0 from more0 c]
    rfl
  · unfold f_X8_deaf
    refine wp_bnd (wp_bindE _ (r_judge hA hR0 v1) ?_)
    rw [b1]
    exact wp_pos rfl (r_fail1 hR 1)
end
