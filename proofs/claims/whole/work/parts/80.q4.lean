/-! pairs of calls: where, judge, stop, count, news -/
section
variable {I : Mem} {P : PMem} {l : Nat} {a : Abs} {O : Nat → Int64} {D : Bool} {n : Nat}
theorem R_stops {k : Mem → Option (Int32 × Mem)} {v : Int32} (hA : AOK a) (hR : GR I a)
    (hk : ∀ r : Mem, rJ r (lJ (yL a)) (lns (yL a)) (tw0 (yL a)) (dy0 (yL a) (xB (yE a))) → LdR r (yL a) → wp (k r) (fun w => w.1 = v ∧ w.2 = r)) :
    wp ((f_X8_set (upd4 I 8 0 0 2 0)).bind fun y3 => (f_X8_tellStops y3).bind k) (fun w => w.1 = v ∧ w.2 8 0 0 2 = 0 ∧ GR w.2 a ∧ Kr I w.2) := by
  obtain ⟨hR0, hK0⟩ := r_code hR 0
  refine wp_bind (r_set hA.1 hR0.1) ?_
  rintro I1 ⟨F1, k1, e40, _⟩
  have K1 : K8 (upd4 I 8 0 0 2 0) I1 := fun f hf _ => k1 f hf
  have h1 : GR I1 a := GR_t hR0 (F1.sub (by simp [LT8])) K1
  refine wp_bind (r_tellStops hA.1 h1.1 e40 h1.2.1.1.1) ?_
  rintro I2 ⟨F2, j2⟩
  have hJ5 := hA.1.2.1
  have j2' := rJ_bw (bw' := fun _ => false) (fun j hj => decide_eq_false (nI_ni (by omega))) j2
  have h2 : GR I2 a := GR_t h1 (F2.sub (by simp [LT8, LT])) (F2.k8 (by simp))
  refine wp_mono (hk I2 j2' h2.1) ?_
  rintro w ⟨w1, w2⟩
  rw [w2]
  refine ⟨w1, ?_, h2, (hK0.tr (F1.kr (by simp))).tr (F2.kr (by simp))⟩
  rw [F2.g (c := 8) (z := 0) (by simp), k1 2 (by omega)]; exact code0 I
theorem p_where (h : G I P) (v1 v2 : Int32) : Pr (f_L_where I P O D n v1 v2) (fun I => f_X8_where I v1 v2) n := by
  obtain ⟨l, a, hA, hC, hR⟩ := h
  have hJ5 := hA.1.2.1
  obtain ⟨hR0, hK0⟩ := r_code hR 0
  refine L_q hA hC hR ?_
  unfold f_X7_where
  refine wp_thb (q_judge hA hC v1) (fun b1 => ?_) (fun b1 => Or.inr ⟨rfl, ?_⟩)
  · obtain ⟨j, hj, rfl⟩ := inR_t (by omega) b1
    refine Q_court hA hC ?_
    intro I1 P1 hC1 hst
    obtain ⟨s1, s2, s3, s4, s5, s6⟩ := hst
    refine wp_bindE _ (c_townOn (I := I1) (P := P1) s4 hj v2) ?_
    refine q2_same hC1 (fun hR1 => ?_)
    obtain ⟨hR10, _⟩ := r_code hR1 0
    unfold f_X8_where
    refine wp_bnd (wp_bindE _ (r_judge hA hR10 _) ?_)
    rw [b1]
    refine wp_neg (by decide) (R_stops hA hR1 ?_)
    intro r hr _
    exact wp_bindE _ (r_townOn hr hj v2) (wp_some ⟨rfl, rfl⟩)
  · unfold f_X8_where
    refine wp_bnd (wp_bindE _ (r_judge hA hR0 v1) ?_)
    rw [b1]
    exact wp_pos rfl (r_fail1 hR 1)
theorem p_judge (h : G I P) (v1 v2 : Int32) : Pr (f_L_judge I P O D n v1 v2) (fun I => f_X8_judge I v1 v2) n := by
  obtain ⟨l, a, hA, hC, hR⟩ := h
  have hJ5 := hA.1.2.1
  obtain ⟨hR0, hK0⟩ := r_code hR 0
  refine L_q hA hC hR ?_
  unfold f_X7_judge
  have i3 : ∀ J : Mem, f_X8_isIn J v2.toInt64 0 4 = some (bI (inR v2 5)) := by
    intro J
    rw [show (4 : Int64) = (nI 4).toInt64 by decide, i64, (inS (v := v2) (n := 4)).resolve_right (by omega)]
  have no : inR v1 (lJ (yL a)) = false ∨ inR v2 5 = false → wp (f_X8_judge I v1 v2) (fun w => w.2 8 0 0 2 = 1 ∧ GR w.2 a ∧ Kr I w.2) := by
    intro q
    unfold f_X8_judge
    refine wp_bnd (wp_bindE _ (r_judge hA hR0 v1) ?_)
    refine wp_ite (fun _ => r_fail1 hR 1) (fun q1 => wp_bindE _ (i3 _) (wp_ite (fun _ => r_fail1 hR 1) (fun q2 => ?_)))
    rcases q with q | q
    · exact absurd (bI_0.mpr q) q1
    · exact absurd (bI_0.mpr q) q2
  refine wp_thb (q_judge hA hC v1) (fun b1 => wp_thb (q_what I v2 (n := 4) (by omega)) (fun b2 => ?_) (fun b2 => Or.inr ⟨rfl, no (by simp [b2])⟩)) (fun b1 => Or.inr ⟨rfl, no (by simp [b1])⟩)
  obtain ⟨j, hj, rfl⟩ := inR_t (by omega) b1
  obtain ⟨hn1, hn7⟩ := hA.1.2.2.2.1 j hj
  have hC0 := hC
  obtain ⟨⟨p1, p2, p3⟩, c1, c2, _⟩ := hC
  have ref : ∀ I1 v, GR I1 a → v = (if v2 = 0 then lkd (yL a) j else if v2 = 1 then bd0 (xB (yE a)) j else if v2 = 2 then lhs (yL a) j else if v2 = 3 then nI (lns (yL a) j) else dy0 (yL a) (xB (yE a)) j (lns (yL a) j - 1)) → wp (f_X8_judge I1 (nI j) v2) (fun w => w.1 = v ∧ w.2 8 0 0 2 = 0 ∧ GR w.2 a ∧ Kr I1 w.2) := by
    intro I1 v hR1 hv
    obtain ⟨hR10, hK10⟩ := r_code hR1 0
    unfold f_X8_judge
    refine wp_bnd (wp_bindE _ (r_judge hA hR10 _) ?_)
    rw [b1]
    refine wp_neg (by decide) (wp_bindE _ (i3 _) ?_)
    rw [b2]
    refine wp_neg (by decide) (wp_ite (fun q => ?_) (fun q => ?_))
    · rw [q, if_neg (by decide), if_neg (by decide), if_neg (by decide), if_neg (by decide)] at hv
      refine R_stops hA hR1 ?_
      intro r hr hL
      refine wp_gd (inb_n (by omega)) ?_
      rw [nI_clamp (by omega), hL.2.1 j hj, n_7, idx_n, nI_p1 (by omega)]
      refine wp_gd (inb_n (by omega)) (wp_some ⟨?_, rfl⟩)
      rw [nI_clamp (by omega), show 7 * j + lns (yL a) j - 1 = 7 * j + (lns (yL a) j - 1) by omega, hv]
      exact (hr.2.2.2 j hj _ (by omega)).2.1
    · refine wp_ite (fun q0 => wp_gd (inb_n (by omega)) (wp_some ⟨?_, code0 I1, hR10, hK10⟩)) (fun q0 => wp_ite (fun q1 => wp_gd (inb_n (by omega)) (wp_some ⟨?_, code0 I1, hR10, hK10⟩)) (fun q1 => wp_ite (fun q2 => wp_gd (inb_n (by omega)) (wp_some ⟨?_, code0 I1, hR10, hK10⟩)) (fun q2 => wp_gd (inb_n (by omega)) (wp_some ⟨?_, code0 I1, hR10, hK10⟩))))
      · rw [hv, if_pos q0, nI_clamp (by omega)]; exact (hR10.1.2.2.2.2.2.2.2.1 j hj).1
      · rw [hv, if_neg q0, if_pos q1, nI_clamp (by omega)]; exact hR10.2.1.1.1 j hj
      · rw [hv, if_neg q0, if_neg q1, if_pos q2, nI_clamp (by omega)]; exact (hR10.1.2.2.2.2.2.2.2.1 j hj).2
      · have q3 : v2 = 3 := by
          obtain ⟨w, hw, ew⟩ := inR_t (by omega) b2
          have : w = 0 ∨ w = 1 ∨ w = 2 ∨ w = 3 ∨ w = 4 := by omega
          rcases this with rfl | rfl | rfl | rfl | rfl
          · exact absurd ew q0
          · exact absurd ew q1
          · exact absurd ew q2
          · exact ew
          · exact absurd ew q
        rw [hv, if_neg q0, if_neg q1, if_neg q2, if_pos q3, nI_clamp (by omega)]; exact hR10.1.2.1 j hj
  have fin : ∀ v, v = _ → wp (some (Sum.inl (v, I, P))) (Qr I P l a (fun I => f_X8_judge I (nI j) v2)) := fun v hv => wp_some (Or.inl ⟨v, I, P, rfl, hC0, Kc.rfl, fun hR1 => ref I v hR1 hv⟩)
  rw [p1]
  refine wp_ite (fun q => wp_gd (dlt p2) (wp_gd (inb_n (by omega)) (fin _ ?_))) (fun q => wp_ite (fun q' => wp_gd (inb_n (by omega)) (fin _ ?_)) (fun q' => wp_ite (fun q'' => wp_gd (dlt p2) (wp_gd (inb_n (by omega)) (fin _ ?_))) (fun q'' => wp_ite (fun q3 => wp_gd (dlt p2) (wp_gd (inb_n (by omega)) (fin _ ?_))) (fun q3 => ?_))))
  · rw [if_pos q, nI_clamp (by omega)]; exact (c1.2.2.2.2.1 j hj).1
  · rw [if_neg q, if_pos q', nI_clamp (by omega)]; exact c2.1.1 j hj
  · rw [if_neg q, if_neg q', if_pos q'', nI_clamp (by omega)]; exact (c1.2.2.2.2.1 j hj).2
  · rw [if_neg q, if_neg q', if_neg q'', if_pos q3, nI_clamp (by omega)]; exact (c1.1.2.2.1 j hj).1
  · refine Q_court hA hC0 ?_
    intro I1 P1 hC1 hst
    obtain ⟨s1, s2, s3, s4, s5, s6⟩ := hst
    have e : f_X1_lastDay I1 P1 0 (nI j) = some (dy0 (yL a) (xB (yE a)) j (lns (yL a) j - 1)) := by
      unfold f_X1_lastDay
      rw [gd_t (dlt s4.1), gd_t (inb_n (by omega)), bnd_e, nI_clamp (by omega), (s4.2.2.2.1 j hj).1, if_neg (nI_ne0 (by omega) (by omega)), nI_p1 hn1, gd_t (inb_n (by omega)), nI_clamp (by omega), (s4.2.2.2.2 j hj _ (by omega)).2.1]
    refine wp_bindE _ e ?_
    exact q2_same hC1 (fun hR1 => ref I1 _ hR1 (by rw [if_neg q, if_neg q', if_neg q'', if_neg q3]))
theorem p_stop (h : G I P) (v1 v2 v3 : Int32) : Pr (f_L_stop I P O D n v1 v2 v3) (fun I => f_X8_stop I v1 v2 v3) n := by
  obtain ⟨l, a, hA, hC, hR⟩ := h
  have hJ5 := hA.1.2.1
  obtain ⟨hR0, hK0⟩ := r_code hR 0
  refine L_q hA hC hR ?_
  unfold f_X7_stop
  have i2 : ∀ (J : Mem) (m : Nat), m ≤ 7 → f_X8_isIn J v2.toInt64 0 ((nI m - 1).toInt64) = some (bI (inR v2 m)) := by
    intro J m hm
    rw [i64]
    congr 2
    unfold inR
    congr 1
    apply decide_eq_decide.mpr
    rw [fa_le, fa_lt, nI_toInt (by omega)]
    have : (nI m - 1).toInt = (m : Int) - 1 := pk_sub_toInt (b := 1) (by omega) (by omega)
    rw [this]; omega
  cases b1 : inR v1 (lJ (yL a))
  · rw [q_judge hA hC v1, b1]
    refine wp_some (Or.inr ⟨rfl, ?_⟩)
    unfold f_X8_stop
    refine wp_bnd (wp_bindE _ (r_judge hA hR0 v1) ?_)
    rw [b1]
    exact wp_pos rfl (r_fail1 hR 1)
  · obtain ⟨j, hj, rfl⟩ := inR_t (by omega) b1
    obtain ⟨hn1, hn7⟩ := hA.1.2.2.2.1 j hj
    have no : inR v2 (lns (yL a) j) = false ∨ inR v3 2 = false → wp (f_X8_stop I (nI j) v2 v3) (fun w => w.2 8 0 0 2 = 1 ∧ GR w.2 a ∧ Kr I w.2) := by
      intro q
      unfold f_X8_stop
      refine wp_bnd (wp_bindE _ (r_judge hA hR0 _) ?_)
      rw [b1]
      refine wp_neg (by decide) (wp_gd (inb_n (by omega)) ?_)
      rw [nI_clamp (by omega), hR0.1.2.1 j hj]
      refine wp_bindE _ (i2 _ _ hn7) ?_
      rw [n_1, ifw (by omega)]
      refine wp_ite (fun _ => r_fail1 hR 1) (fun q1 => wp_neg ?_ (r_fail1 hR 1))
      rcases q with q | q
      · exact absurd (bI_0.mpr q) q1
      · rw [q]; decide
    have hC0 := hC
    refine wp_thb (q_judge hA hC _) (fun _ => ?_) (fun h => by rw [b1] at h; cases h)
    obtain ⟨⟨p1, p2, p3⟩, c1, c2, _⟩ := hC
    refine wp_thb (q_what I v3 (n := 1) (by omega)) (fun b3 => ?_) (fun b3 => Or.inr ⟨rfl, no (by simp [b3])⟩)
    rw [p1]
    unfold f_X7_stop_27
    refine wp_ite (fun q => wp_some (Or.inr ⟨rfl, no (Or.inl (by unfold inR; simp [(fa_of_lt q).2.1]))⟩)) (fun q => wp_gd (dlt p2) (wp_gd (inb_n (by omega)) ?_))
    rw [nI_clamp (by omega), (c1.1.2.2.1 j hj).1]
    refine wp_ite (fun q2 => ?_) (fun q2 => wp_some (Or.inr ⟨rfl, no (Or.inl (Bool.eq_false_iff.mpr (fun h => q2 ((inR_lt q).mpr h))))⟩))
    have b2 := (inR_lt q).mp q2
    obtain ⟨i, hi, rfl⟩ := inR_t (by omega) b2
    have ref : ∀ I1 v, GR I1 a → v = (if v3 = 0 then nI (tw0 (yL a) j i) else dy0 (yL a) (xB (yE a)) j i) → wp (f_X8_stop I1 (nI j) (nI i) v3) (fun w => w.1 = v ∧ w.2 8 0 0 2 = 0 ∧ GR w.2 a ∧ Kr I1 w.2) := by
      intro I1 v hR1 hv
      obtain ⟨hR10, hK10⟩ := r_code hR1 0
      unfold f_X8_stop
      refine wp_bnd (wp_bindE _ (r_judge hA hR10 _) ?_)
      rw [b1]
      refine wp_neg (by decide) (wp_gd (inb_n (by omega)) ?_)
      rw [nI_clamp (by omega), hR10.1.2.1 j hj]
      refine wp_bindE _ (i2 _ _ hn7) ?_
      rw [b2, n_1, ifw (by omega)]
      refine wp_neg (by decide) (wp_pos b3 (R_stops hA hR1 ?_))
      intro r hr _
      rw [n_7, idx_n]
      refine wp_ite (fun q => wp_gd (inb_n (by omega)) (wp_some ⟨?_, rfl⟩)) (fun q => wp_gd (inb_n (by omega)) (wp_some ⟨?_, rfl⟩))
      · rw [nI_clamp (by omega), hv, if_pos q]; exact (hr.2.2.2 j hj i hi).1
      · rw [nI_clamp (by omega), hv, if_neg q]; exact (hr.2.2.2 j hj i hi).2.1
    refine wp_ite (fun q3 => wp_gd (inb_n (by omega)) (wp_some (Or.inl ⟨_, I, P, rfl, hC0, Kc.rfl, fun hR1 => ref I _ hR1 ?_⟩))) (fun q3 => ?_)
    · rw [if_pos q3, nI_clamp (by omega)]; exact (c1.1.2.2.2.1 j hj i hi).1
    · refine Q_court hA hC0 ?_
      intro I1 P1 hC1 hst
      refine wp_gd (inb_n (by omega)) (q2_same hC1 (fun hR1 => ref I1 _ hR1 ?_))
      rw [if_neg q3, nI_clamp (by omega)]
      exact (hst.2.2.2.1.2.2.2.2 j hj i hi).2.1
end
