/-! pairs of calls: met, guilty, where, judge, stop -/
section
variable {I : Mem} {P : PMem} {l : Nat} {a : Abs} {O : Nat → Int64} {D : Bool} {n : Nat}
theorem mv_b (p : Int32 → Bool) : mv p = -1 ∨ (mv p).toInt < 100000 := by
  unfold mv
  split
  · right; rw [nI_toInt (by omega)]; omega
  · left; rfl
theorem p_met (h : G I P) (v1 v2 : Int32) : Pr (f_L_met I P O D n v1 v2) (fun I => f_X8_met I v1 v2) n := by
  obtain ⟨l, a, hA, hC, hR⟩ := h
  have hJ5 := hA.1.2.1
  obtain ⟨hR0, hK0⟩ := r_code hR 0
  have no : inR v1 (lJ (yL a)) = false ∨ inR v2 (lJ (yL a)) = false → wp (f_X8_met I v1 v2) (fun w => w.2 8 0 0 2 = 1 ∧ GR w.2 a ∧ Kr I w.2) := by
    intro q
    unfold f_X8_met
    refine wp_bnd (wp_bindE _ (r_judge hA hR0 v1) ?_)
    refine wp_ite (fun _ => r_fail1 hR 1) (fun q1 => wp_bindE _ (r_judge hA hR0 v2) (wp_ite (fun _ => r_fail1 hR 1) (fun q2 => ?_)))
    rcases q with q | q
    · exact absurd (bI_0.mpr q) q1
    · exact absurd (bI_0.mpr q) q2
  unfold f_L_met f_X7_met
  cases b1 : inR v1 (lJ (yL a))
  · rw [q_judge hA hC v1, b1]
    exact pr_no rfl (by decide) (Nat.le_refl _) hA hC (no (by simp [b1]))
  · cases b2 : inR v2 (lJ (yL a))
    · rw [q_judge hA hC v1, b1, q_judge hA hC v2, b2]
      exact pr_no rfl (by decide) (Nat.le_refl _) hA hC (no (by simp [b2]))
    · rw [q_judge hA hC v1, b1, q_judge hA hC v2, b2]
      obtain ⟨x, hx, rfl⟩ := inR_t (by omega) b1
      obtain ⟨y, hy, rfl⟩ := inR_t (by omega) b2
      show Pr ((if nI x = nI y then _ else _ : Option ((Int32 × Mem × PMem) ⊕ Nat)).bind _) _ _
      by_cases q : nI x = nI y
      · rw [if_pos q]
        refine pr_no rfl (by decide) (Nat.le_refl _) hA hC ?_
        unfold f_X8_met
        refine wp_bnd (wp_bindE _ (r_judge hA hR0 _) ?_)
        rw [b1]
        refine wp_neg (by decide) (wp_bindE _ (r_judge hA hR0 _) ?_)
        rw [b2]
        refine wp_neg (by decide) (wp_pos q (r_fail1 hR 2))
      · rw [if_neg q]
        have hne : x ≠ y := fun e => q (by rw [e])
        obtain ⟨⟨I1, P1⟩, ec, hC1, hst, hk⟩ := s_court hA hC
        rw [ec, Option.bind_some, gd_t (inb_n (by omega)), gd_t (inb_n (by omega))]
        obtain ⟨s1, s2, s3, s4, s5, s6⟩ := hst
        have e23 : I1 23 0 x y = qmt (yL a) (xB (yE a)) (tw0 (yL a)) (dy0 (yL a) (xB (yE a))) (binns (xB (yE a))) x y := s5.2.2 x y hx hy hne
        refine pr_ok (v := qmt (yL a) (xB (yE a)) (tw0 (yL a)) (dy0 (yL a) (xB (yE a))) (binns (xB (yE a))) x y) (I1 := I1) (P1 := P1) rfl ?_ (by omega) hA hC1 ?_
        · rw [uL0]
          show (I1 23 0 _ _).toInt64 = _
          rw [nI_clamp (by omega), nI_clamp (by omega), e23]
        · have hR1 := GR_k hR hk
          obtain ⟨hR10, _⟩ := r_code hR1 0
          unfold f_X8_met
          refine wp_bnd (wp_bindE _ (r_judge hA hR10 _) ?_)
          rw [b1]
          refine wp_neg (by decide) (wp_bindE _ (r_judge hA hR10 _) ?_)
          rw [b2]
          refine wp_neg (by decide) (wp_neg q (R_tell hA hR1 ?_))
          rintro ⟨u, I3⟩ _ rq rj
          rw [n_5, idx_n]
          refine wp_gd (inb_n (by omega)) ?_
          have e70 : I3 70 0 0 (5 * x + y) = nv (qmt (yL a) (xB (yE a)) (tw0 (yL a)) (dy0 (yL a) (xB (yE a))) (binns (xB (yE a))) x y) := rq.2.2.2.2.1 x y hx hy
          show wp ((f_X8_orNone I3 (I3 70 0 0 _)).bind _) _
          rw [nI_clamp (by omega), e70]
          exact wp_bindE _ (nv_or (mv_b _)) (wp_some ⟨rfl, rfl⟩)
theorem p_guilty (h : G I P) (v1 v2 : Int32) : Pr (f_L_guilty I P O D n v1 v2) (fun I => f_X8_guilty I v1 v2) n := by
  obtain ⟨l, a, hA, hC, hR⟩ := h
  have hJ5 := hA.1.2.1
  have hC6 := hA.1.2.2.1
  obtain ⟨hR0, hK0⟩ := r_code hR 0
  refine L_q hA hC hR ?_
  unfold f_X7_guilty
  have no : inR v1 (lC (yL a)) = false ∨ inR v2 2 = false → wp (f_X8_guilty I v1 v2) (fun w => w.2 8 0 0 2 = 1 ∧ GR w.2 a ∧ Kr I w.2) := by
    intro q
    unfold f_X8_guilty
    refine wp_bnd (wp_bindE _ (r_case hA hR0 v1) ?_)
    rw [n_1, ifw (by omega)]
    refine wp_ite (fun _ => r_fail1 hR 1) (fun q1 => wp_neg ?_ (r_fail1 hR 1))
    rcases q with q | q
    · exact absurd (bI_0.mpr q) q1
    · rw [q]; decide
  refine wp_thb (q_case hA hC v1) (fun b1 => wp_thb (q_what I v2 (n := 1) (by omega)) (fun b2 => ?_) (fun b2 => Or.inr ⟨rfl, no (by simp [b2])⟩)) (fun b1 => Or.inr ⟨rfl, no (by simp [b1])⟩)
  obtain ⟨c, hc, rfl⟩ := inR_t (by omega) b1
  refine Q_court hA hC ?_
  intro I1 P1 hC1 hst
  obtain ⟨s1, s2, s3, s4, s5, s6⟩ := hst
  have S := B_SOK hA.1 (A_BOK hA).1 (fun _ => false)
  have hsd := q_sdW (B := xB (yE a)) S
  have ref : ∀ v, v = (if v2 = 0 then (qtr (yL a) (xB (yE a)) (tw0 (yL a)) (dy0 (yL a) (xB (yE a))) (binns (xB (yE a))) 0 (qdf (yL a)) c).2 else (qtr (yL a) (xB (yE a)) (tw0 (yL a)) (dy0 (yL a) (xB (yE a))) (binns (xB (yE a))) 0 (qdf (yL a)) c).1) → GR I1 a → wp (f_X8_guilty I1 (nI c) v2) (fun w => w.1 = v ∧ w.2 8 0 0 2 = 0 ∧ GR w.2 a ∧ Kr I1 w.2) := by
    intro v hv hR1
    obtain ⟨hR10, _⟩ := r_code hR1 0
    unfold f_X8_guilty
    refine wp_bnd (wp_bindE _ (r_case hA hR10 _) ?_)
    rw [b1, n_1, ifw (by omega)]
    refine wp_neg (by decide) (wp_pos b2 (R_tell hA hR1 ?_))
    rintro ⟨u, I3⟩ _ rq rj
    obtain ⟨j1, j2, j3⟩ := rj c hc
    rw [more0] at j2 j3
    refine wp_ite (fun q => wp_gd (inb_n (by omega)) ?_) (fun q => wp_gd (inb_n (by omega)) (wp_some ⟨?_, rfl⟩))
    · rw [if_pos q] at hv
      show wp ((f_X8_orNone I3 (I3 75 0 0 _)).bind _) _
      have e75 : I3 75 0 0 c = nv (qtr (yL a) (xB (yE a)) (tw0 (yL a)) (dy0 (yL a) (xB (yE a))) (binns (xB (yE a))) 0 (qdf (yL a)) c).2 := by
        rw [show I3 75 0 0 c = _ from j3]
        rcases trv_b (gv := qgv (yL a) (xB (yE a)) (tw0 (yL a)) (dy0 (yL a) (xB (yE a)))) (mt := qmt (yL a) (xB (yE a)) (tw0 (yL a)) (dy0 (yL a) (xB (yE a))) (binns (xB (yE a)))) (more' := 0) (df := qdf (yL a)) (rc := qrc (yL a) (xB (yE a)) (tw0 (yL a)) (dy0 (yL a) (xB (yE a)))) hsd hc with e | e | e
        · have e1 : (qtr (yL a) (xB (yE a)) (tw0 (yL a)) (dy0 (yL a) (xB (yE a))) (binns (xB (yE a))) 0 (qdf (yL a)) c).1 = 0 := e.1
          have e2 : (qtr (yL a) (xB (yE a)) (tw0 (yL a)) (dy0 (yL a) (xB (yE a))) (binns (xB (yE a))) 0 (qdf (yL a)) c).2 = -1 := e.2
          rw [if_pos e1, e2]; rfl
        · have e1 : (qtr (yL a) (xB (yE a)) (tw0 (yL a)) (dy0 (yL a) (xB (yE a))) (binns (xB (yE a))) 0 (qdf (yL a)) c).1 ≠ 0 := e.1
          have e2 : 0 ≤ ((qtr (yL a) (xB (yE a)) (tw0 (yL a)) (dy0 (yL a) (xB (yE a))) (binns (xB (yE a))) 0 (qdf (yL a)) c).2).toInt := e.2.1
          rw [if_neg e1, nv, if_neg (ne_m1 e2)]
        · omega
      rw [nI_clamp (by omega), e75]
      refine wp_bindE _ (nv_or ?_) (wp_some ⟨hv.symm, rfl⟩)
      rcases trv_b (gv := qgv (yL a) (xB (yE a)) (tw0 (yL a)) (dy0 (yL a) (xB (yE a)))) (mt := qmt (yL a) (xB (yE a)) (tw0 (yL a)) (dy0 (yL a) (xB (yE a))) (binns (xB (yE a)))) (more' := 0) (df := qdf (yL a)) (rc := qrc (yL a) (xB (yE a)) (tw0 (yL a)) (dy0 (yL a) (xB (yE a)))) hsd hc with e | e | e
      · exact Or.inl e.2
      · refine Or.inr ?_
        have h9 : ((qtr (yL a) (xB (yE a)) (tw0 (yL a)) (dy0 (yL a) (xB (yE a))) (binns (xB (yE a))) 0 (qdf (yL a)) c).2).toInt ≤ 114 := e.2.2
        omega
      · omega
    · rw [if_neg q] at hv
      rw [nI_clamp (by omega), hv]
      exact j2
  show wp (if v2 = 0 then _ else _) _
  refine wp_ite (fun q => ?_) (fun q => wp_gd (inb_n (by omega)) ?_)
  · refine wp_bindE _ (c_tday (I := I1) (P := P1) s4 hC6 s5 hc (s6 c hc) (fun j hj ht => ((hsd c hc j hj).1 ht).1)) ?_
    exact q2_same hC1 (ref _ (by rw [if_pos q]; rfl))
  · refine q2_same hC1 (ref _ ?_)
    show I1 24 0 0 _ = _
    rw [if_neg q, nI_clamp (by omega)]
    exact s6 c hc
end
