/-! pairs of calls: questions to the settled court -/
section
variable {I : Mem} {P : PMem} {l : Nat} {a : Abs} {O : Nat → Int64} {D : Bool} {n : Nat}
theorem more0 (c : Nat) : more 0 (-1) c = 0 := by unfold more; split <;> rfl
def Q2 (I1 : Mem) (l : Nat) (a : Abs) (fr : Mem → Option (Int32 × Mem)) (y : (Int32 × Mem × PMem) ⊕ Nat) : Prop :=
  ∃ v I2 P2, y = Sum.inl (v, I2, P2) ∧ GC I2 P2 l a ∧ Kc I1 I2 ∧ (GR I2 a → wp (fr I2) (fun w => w.1 = v ∧ w.2 8 0 0 2 = 0 ∧ GR w.2 a ∧ Kr I2 w.2))
theorem q2_same {I1 : Mem} {P1 : PMem} {fr : Mem → Option (Int32 × Mem)} {v : Int32} (hC : GC I1 P1 l a) (h : GR I1 a → wp (fr I1) (fun w => w.1 = v ∧ w.2 8 0 0 2 = 0 ∧ GR w.2 a ∧ Kr I1 w.2)) : wp (some (Sum.inl (v, I1, P1))) (Q2 I1 l a fr) :=
  wp_some ⟨v, I1, P1, rfl, hC, Kc.rfl, h⟩
/-- a question that both sides ask their court -/
theorem Q_court {fr : Mem → Option (Int32 × Mem)} {k : Mem × PMem → Option ((Int32 × Mem × PMem) ⊕ Nat)} (hA : AOK a) (hC : GC I P l a)
    (hk : ∀ I1 P1, GC I1 P1 l a → stl I1 P1 0 l (yL a) (xB (yE a)) → wp (k (I1, P1)) (Q2 I1 l a fr)) :
    wp ((f_X7_settledCourt I P).bind k) (Qr I P l a fr) := by
  refine wp_bind (s_court hA hC) ?_
  rintro ⟨I1, P1⟩ ⟨h1, h2, h3⟩
  refine wp_mono (hk I1 P1 h1 h2) ?_
  rintro y ⟨v, I2, P2, e1, e2, e3, e4⟩
  exact Or.inl ⟨v, I2, P2, e1, e2, h3.tr e3, e4⟩
/-- a question that the reference answers out of a telling -/
theorem R_tell {k : Int32 × Mem → Option (Int32 × Mem)} {v : Int32} (hA : AOK a) (hR : GR I a)
    (hk : ∀ r : Int32 × Mem, r.1 = nI (gcn (yL a) (xB (yE a)) (tw0 (yL a)) (dy0 (yL a) (xB (yE a))) (binns (xB (yE a))) (qdf (yL a)) 0 (-1)) →
      qRQ r.2 (yL a) (xB (yE a)) (tw0 (yL a)) (dy0 (yL a) (xB (yE a))) (qmt (yL a) (xB (yE a)) (tw0 (yL a)) (dy0 (yL a) (xB (yE a))) (binns (xB (yE a)))) (qdf (yL a)) 0 (-1) →
      jud r.2 (yL a) (xB (yE a)) (tw0 (yL a)) (dy0 (yL a) (xB (yE a))) (binns (xB (yE a))) (qdf (yL a)) 0 (-1) → wp (k r) (fun w => w.1 = v ∧ w.2 = r.2)) :
    wp ((f_X8_tellNow (upd4 I 8 0 0 2 0)).bind k) (fun w => w.1 = v ∧ w.2 8 0 0 2 = 0 ∧ GR w.2 a ∧ Kr I w.2) := by
  obtain ⟨hR0, hK0⟩ := r_code hR 0
  refine wp_bind (s_tell hA hR0) ?_
  rintro r ⟨r1, r2, r3, F, K, e2, _⟩
  refine wp_mono (hk r r1 r2 r3) ?_
  rintro w ⟨w1, w2⟩
  rw [w2]
  exact ⟨w1, by rw [e2]; exact code0 I, GR_t hR0 F K, hK0.tr (LT8_kr F)⟩
theorem p_said (h : G I P) (v1 v2 v3 : Int32) : Pr (f_L_said I P O D n v1 v2 v3) (fun I => f_X8_said I v1 v2 v3) n := by
  obtain ⟨l, a, hA, hC, hR⟩ := h
  have hJ5 := hA.1.2.1
  have hC6 := hA.1.2.2.1
  obtain ⟨hR0, hK0⟩ := r_code hR 0
  refine L_q hA hC hR ?_
  unfold f_X7_said
  have i3 : ∀ J : Mem, f_X8_isIn J v3.toInt64 0 3 = some (bI (inR v3 4)) := by
    intro J
    rw [show (3 : Int64) = (nI 3).toInt64 by decide, i64, (inS (v := v3) (n := 3)).resolve_right (by omega)]
  have no : inR v1 (lC (yL a)) = false ∨ inR v2 (lJ (yL a)) = false ∨ inR v3 4 = false → wp (f_X8_said I v1 v2 v3) (fun w => w.2 8 0 0 2 = 1 ∧ GR w.2 a ∧ Kr I w.2) := by
    intro q
    unfold f_X8_said
    refine wp_bnd (wp_bindE _ (r_case hA hR0 v1) ?_)
    refine wp_ite (fun _ => r_fail1 hR 1) (fun q1 => wp_bindE _ (r_judge hA hR0 v2) (wp_ite (fun _ => r_fail1 hR 1) (fun q2 => wp_bindE _ (i3 _) (wp_ite (fun _ => r_fail1 hR 1) (fun q3 => ?_)))))
    rcases q with q | q | q
    · exact absurd (bI_0.mpr q) q1
    · exact absurd (bI_0.mpr q) q2
    · exact absurd (bI_0.mpr q) q3
  refine wp_thb (q_case hA hC v1) (fun b1 => wp_thb (q_judge hA hC v2) (fun b2 => wp_thb (q_what I v3 (n := 3) (by omega)) (fun b3 => ?_) (fun b3 => Or.inr ⟨rfl, no (by simp [b3])⟩)) (fun b2 => Or.inr ⟨rfl, no (by simp [b2])⟩)) (fun b1 => Or.inr ⟨rfl, no (by simp [b1])⟩)
  obtain ⟨c, hc, e1⟩ := inR_t (by omega) b1
  obtain ⟨j, hj, e2⟩ := inR_t (by omega) b2
  refine Q_court hA hC ?_
  intro I1 P1 hC1 hst
  obtain ⟨s1, s2, s3, s4, s5, s6⟩ := hst
  obtain ⟨q1, q2, q3⟩ := s5.1 c hc j hj
  have hsd := q_sdW (B := xB (yE a)) (B_SOK hA.1 (A_BOK hA).1 (fun _ => false)) c hc j hj
  have rcf : qtl (yL a) (xB (yE a)) (tw0 (yL a)) (dy0 (yL a) (xB (yE a))) c j = false → qrc (yL a) (xB (yE a)) (tw0 (yL a)) (dy0 (yL a) (xB (yE a))) c j = false := by
    intro ht
    have e := (hsd.2 ht).1
    have S := (B_SOK hA.1 (A_BOK hA).1 (fun _ => false)).1
    have lim0 : lim (dy0 (yL a) (xB (yE a)) j) (lns (yL a) j) (qsd (yL a) (xB (yE a)) (tw0 (yL a)) (dy0 (yL a) (xB (yE a))) c j) = 0 := by
      have hn1 := (hA.1.2.2.2.1 j hj).1
      unfold lim
      rw [show lns (yL a) j = (lns (yL a) j - 1) + 1 by omega, ff, if_pos]
      have h0 : 0 ≤ (dy0 (yL a) (xB (yE a)) j 0).toInt := (S.1 j 0 hj (by omega)).1
      rw [e]
      refine decide_eq_true ?_
      rw [fa_lt, m1_toInt]; omega
    unfold qrc rcV cx
    simp only [lim0, ex, Bool.and_false]
    apply Bool.eq_false_iff.mpr
    intro q
    simp only [Bool.or_eq_true, ex_iff] at q
    rcases q with ⟨_, _, _, q⟩ | ⟨_, _, _, q⟩ <;> cases q
  obtain ⟨rv, hrv⟩ : ∃ x : Int32, x = (if v3 = 3 then bI (qvd (yL a) (xB (yE a)) (tw0 (yL a)) (dy0 (yL a) (xB (yE a))) (qdf (yL a)) 0 (-1) c j) else if qtl (yL a) (xB (yE a)) (tw0 (yL a)) (dy0 (yL a) (xB (yE a))) c j = false then -1 else if v3 = 0 then bI (qgv (yL a) (xB (yE a)) (tw0 (yL a)) (dy0 (yL a) (xB (yE a))) c j) else if v3 = 1 then qsd (yL a) (xB (yE a)) (tw0 (yL a)) (dy0 (yL a) (xB (yE a))) c j else qst (yL a) (xB (yE a)) (tw0 (yL a)) (dy0 (yL a) (xB (yE a))) c j) := ⟨_, rfl⟩
  have ref : ∀ I2 v, GR I2 a → v = rv →
      wp (f_X8_said I2 v1 v2 v3) (fun w => w.1 = v ∧ w.2 8 0 0 2 = 0 ∧ GR w.2 a ∧ Kr I2 w.2) := by
    intro I2 v hR2 hv
    rw [hrv] at hv
    obtain ⟨hR20, _⟩ := r_code hR2 0
    unfold f_X8_said
    refine wp_bnd (wp_bindE _ (r_case hA hR20 v1) ?_)
    rw [b1]
    refine wp_neg (by decide) (wp_bindE _ (r_judge hA hR20 v2) ?_)
    rw [b2]
    refine wp_neg (by decide) (wp_bindE _ (i3 _) ?_)
    rw [b3]
    refine wp_neg (by decide) (R_tell hA hR2 ?_)
    rintro ⟨u, I3⟩ _ rq rj
    obtain ⟨j1, j2⟩ := rj c hc
    obtain ⟨t1, t2⟩ := rq.2.2.2.1 c hc j hj
    refine wp_bnd ?_
    rw [e1, e2, n_5, idx_n]
    refine wp_ite (fun q => wp_gd (inb_n (by omega)) (wp_some ⟨?_, rfl⟩)) (fun q => wp_gd (inb_n (by omega)) ?_)
    · rw [nI_clamp (by omega), hv, if_pos q]; exact j1 j hj
    · rw [nI_clamp (by omega)]
      rw [if_neg q] at hv
      cases ht : qtl (yL a) (xB (yE a)) (tw0 (yL a)) (dy0 (yL a) (xB (yE a))) c j
      · rw [ht] at t1 hv
        refine wp_pos t1 (wp_some ⟨?_, rfl⟩)
        rw [hv]; rfl
      · rw [ht] at t1 hv
        obtain ⟨t3, t4⟩ := t2 ht
        rw [if_neg (by decide)] at hv
        refine wp_neg (by rw [t1]; cases qgv (yL a) (xB (yE a)) (tw0 (yL a)) (dy0 (yL a) (xB (yE a))) c j <;> decide) ?_
        refine wp_ite (fun q1 => wp_some ⟨?_, rfl⟩) (fun q1 => wp_ite (fun q2 => wp_some ⟨?_, rfl⟩) (fun q2 => wp_some ⟨?_, rfl⟩))
        · rw [hv, if_pos q1]; exact t1
        · rw [hv, if_neg q1, if_pos q2]; exact t3
        · rw [hv, if_neg q1, if_neg q2, (hsd.1 ht).2.2.1]; exact t4
  show wp (if v3 = (0 : Int32) then _ else _) _
  have fin : ∀ v, v = rv → wp (some (Sum.inl (v, I1, P1))) (Q2 I1 l a (fun I => f_X8_said I v1 v2 v3)) := fun v hv => q2_same hC1 (fun hR1 => ref I1 v hR1 hv)
  refine wp_ite (fun q => wp_gd (by rw [e1]; exact inb_n (by omega)) (wp_gd (by rw [e2]; exact inb_n (by omega)) (fin _ ?_))) (fun q => wp_ite (fun q' => wp_gd (by rw [e1]; exact inb_n (by omega)) (wp_gd (by rw [e2]; exact inb_n (by omega)) (fin _ ?_))) (fun q' => wp_ite (fun q'' => wp_gd (by rw [e1]; exact inb_n (by omega)) (wp_gd (by rw [e2]; exact inb_n (by omega)) (fin _ ?_))) (fun q'' => ?_)))
  · show I1 20 0 _ _ = _
    rw [e1, e2, nI_clamp (by omega), nI_clamp (by omega), hrv, q3, q]
    rw [if_neg (by decide : ¬ (0 : Int32) = 3)]
    cases qtl (yL a) (xB (yE a)) (tw0 (yL a)) (dy0 (yL a) (xB (yE a))) c j <;> rfl
  · show I1 16 0 _ _ = _
    rw [e1, e2, nI_clamp (by omega), nI_clamp (by omega), hrv, q1, q']
    rw [if_neg (by decide : ¬ (1 : Int32) = 3)]
    cases ht : qtl (yL a) (xB (yE a)) (tw0 (yL a)) (dy0 (yL a) (xB (yE a))) c j
    · rw [(hsd.2 ht).1]; rfl
    · rfl
  · show I1 18 0 _ _ = _
    rw [e1, e2, nI_clamp (by omega), nI_clamp (by omega), hrv, q2, q'']
    rw [if_neg (by decide : ¬ (2 : Int32) = 3)]
    cases ht : qtl (yL a) (xB (yE a)) (tw0 (yL a)) (dy0 (yL a) (xB (yE a))) c j
    · rw [(hsd.2 ht).2]; rfl
    · rfl
  · have q4 : v3 = 3 := by
      obtain ⟨w, hw, ew⟩ := inR_t (by omega) b3
      have : w = 0 ∨ w = 1 ∨ w = 2 ∨ w = 3 := by omega
      rcases this with rfl | rfl | rfl | rfl
      · exact absurd ew q
      · exact absurd ew q'
      · exact absurd ew q''
      · exact ew
    rw [e1]
    refine wp_bind (c_void s5 hJ5 hC6 hc hj s3) ?_
    intro y hy
    rw [e2, hy]
    have key : bI (vdv (qrc (yL a) (xB (yE a)) (tw0 (yL a)) (dy0 (yL a) (xB (yE a)))) (qdf (yL a)) c j) = rv := by
      rw [hrv, if_pos q4]
      congr 1
      unfold vdv qvd vdr
      rw [b_0, Bool.and_false, Bool.false_or]
      cases ht : qtl (yL a) (xB (yE a)) (tw0 (yL a)) (dy0 (yL a) (xB (yE a))) c j
      · rw [rcf ht]; rfl
      · show (qrc (yL a) (xB (yE a)) (tw0 (yL a)) (dy0 (yL a) (xB (yE a))) c j && _) = (_ && (_ && qrc (yL a) (xB (yE a)) (tw0 (yL a)) (dy0 (yL a) (xB (yE a))) c j))
        rw [Bool.true_and, Bool.and_comm]
    have fk := fin _ key
    rw [e1, e2] at fk
    exact fk
end
