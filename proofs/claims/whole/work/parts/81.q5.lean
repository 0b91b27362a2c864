/-! pairs of calls: count, news -/
section
variable {I : Mem} {P : PMem} {l : Nat} {a : Abs} {O : Nat → Int64} {D : Bool} {n : Nat}
def cnt (a : Abs) (v : Int32) : Int32 := if v = 0 then nI (lT (yL a)) else if v = 1 then nI (lnr (yL a)) else if v = 2 then lgg (yL a) else if v = 3 then nI (lJ (yL a)) else if v = 4 then nI (lC (yL a)) else if v = 5 then binns (xB (yE a)) else if v = 6 then nI (bn (xB (yE a))) else if v = 7 then nI (bnf (xB (yE a))) else if v = 8 then nI (bnl (xB (yE a))) else if v = 9 then nI (gcn (yL a) (xB (yE a)) (tw0 (yL a)) (dy0 (yL a) (xB (yE a))) (binns (xB (yE a))) (qdf (yL a)) 0 (-1)) else if v = 10 then nI (xna (yE a)) else if v = 11 then nI (xsn (yE a)) else if v = 12 then nI (ytn a) else if v = 13 then xst (yE a) 0 else if v = 14 then xst (yE a) 1 else if v = 15 then xst (yE a) 2 else 0
theorem q_many (hA : AOK a) {I1 : Mem} {P1 : PMem} (hC1 : GC I1 P1 l a) (hst : stl I1 P1 0 l (yL a) (xB (yE a))) : f_X1_howManyGuilty I1 P1 0 = some (nI (gcn (yL a) (xB (yE a)) (tw0 (yL a)) (dy0 (yL a) (xB (yE a))) (binns (xB (yE a))) (qdf (yL a)) 0 (-1))) := by
  obtain ⟨s1, s2, s3, s4, s5, s6⟩ := hst
  have := c_many (I := I1) (P := P1) (z := 0) (C := lC (yL a)) s4.1 (by rw [s1]; exact hC1.2.1.2.2.1) hA.1.2.2.1 s6
  rw [this]
  unfold gcn
  simp only [more0]
theorem r_count (hA : AOK a) {I1 : Mem} {v v1 : Int32} (hR1 : GR I1 a) (b : inR v1 16 = true) (hv : v = cnt a v1) : wp (f_X8_count I1 v1) (fun w => w.1 = v ∧ w.2 8 0 0 2 = 0 ∧ GR w.2 a ∧ Kr I1 w.2) := by
  obtain ⟨hR10, hK10⟩ := r_code hR1 0
  unfold cnt at hv
  unfold f_X8_count
  refine wp_bnd ?_
  refine wp_ite (fun q0 => ?_) (fun q0 => ?_)
  · rw [if_pos q0] at hv
    exact wp_some ⟨(show _ from hR10.1.2.2.2.2.1).trans hv.symm, code0 I1, hR10, hK10⟩
  refine wp_ite (fun q1 => ?_) (fun q1 => ?_)
  · rw [if_neg q0, if_pos q1] at hv
    exact wp_some ⟨(show _ from hR10.1.2.2.2.2.2.2.2.2.2.2.2.2).trans hv.symm, code0 I1, hR10, hK10⟩
  refine wp_ite (fun q2 => ?_) (fun q2 => ?_)
  · rw [if_neg q0, if_neg q1, if_pos q2] at hv
    exact wp_some ⟨(show _ from hR10.1.2.2.2.2.2.2.2.2.2.2.2.1).trans hv.symm, code0 I1, hR10, hK10⟩
  refine wp_ite (fun q3 => ?_) (fun q3 => ?_)
  · rw [if_neg q0, if_neg q1, if_neg q2, if_pos q3] at hv
    exact wp_some ⟨(show _ from hR10.1.1).trans hv.symm, code0 I1, hR10, hK10⟩
  refine wp_ite (fun q4 => ?_) (fun q4 => ?_)
  · rw [if_neg q0, if_neg q1, if_neg q2, if_neg q3, if_pos q4] at hv
    exact wp_some ⟨(show _ from hR10.1.2.2.2.2.2.1).trans hv.symm, code0 I1, hR10, hK10⟩
  refine wp_ite (fun q5 => ?_) (fun q5 => ?_)
  · rw [if_neg q0, if_neg q1, if_neg q2, if_neg q3, if_neg q4, if_pos q5] at hv
    exact wp_some ⟨(show _ from hR10.2.1.1.2.1).trans hv.symm, code0 I1, hR10, hK10⟩
  refine wp_ite (fun q6 => ?_) (fun q6 => ?_)
  · rw [if_neg q0, if_neg q1, if_neg q2, if_neg q3, if_neg q4, if_neg q5, if_pos q6] at hv
    exact wp_some ⟨(show _ from hR10.2.1.1.2.2.1.1).trans hv.symm, code0 I1, hR10, hK10⟩
  refine wp_ite (fun q7 => ?_) (fun q7 => ?_)
  · rw [if_neg q0, if_neg q1, if_neg q2, if_neg q3, if_neg q4, if_neg q5, if_neg q6, if_pos q7] at hv
    exact wp_some ⟨(show _ from hR10.2.1.1.2.2.2.1.1).trans hv.symm, code0 I1, hR10, hK10⟩
  refine wp_ite (fun q8 => ?_) (fun q8 => ?_)
  · rw [if_neg q0, if_neg q1, if_neg q2, if_neg q3, if_neg q4, if_neg q5, if_neg q6, if_neg q7, if_pos q8] at hv
    exact wp_some ⟨(show _ from hR10.2.1.1.2.2.2.2.1).trans hv.symm, code0 I1, hR10, hK10⟩
  refine wp_ite (fun q9 => ?_) (fun q9 => ?_)
  · rw [if_neg q0, if_neg q1, if_neg q2, if_neg q3, if_neg q4, if_neg q5, if_neg q6, if_neg q7, if_neg q8, if_pos q9] at hv
    refine R_tell hA hR1 ?_
    rintro ⟨u, I3⟩ r1 _ _
    exact wp_some ⟨r1.trans hv.symm, rfl⟩
  refine wp_ite (fun q10 => ?_) (fun q10 => ?_)
  · rw [if_neg q0, if_neg q1, if_neg q2, if_neg q3, if_neg q4, if_neg q5, if_neg q6, if_neg q7, if_neg q8, if_neg q9, if_pos q10] at hv
    exact wp_some ⟨(show _ from hR10.2.1.2.1).trans hv.symm, code0 I1, hR10, hK10⟩
  refine wp_ite (fun q11 => ?_) (fun q11 => ?_)
  · rw [if_neg q0, if_neg q1, if_neg q2, if_neg q3, if_neg q4, if_neg q5, if_neg q6, if_neg q7, if_neg q8, if_neg q9, if_neg q10, if_pos q11] at hv
    exact wp_some ⟨(show _ from hR10.2.1.2.2.2.1.1).trans hv.symm, code0 I1, hR10, hK10⟩
  refine wp_ite (fun q12 => ?_) (fun q12 => ?_)
  · rw [if_neg q0, if_neg q1, if_neg q2, if_neg q3, if_neg q4, if_neg q5, if_neg q6, if_neg q7, if_neg q8, if_neg q9, if_neg q10, if_neg q11, if_pos q12] at hv
    exact wp_some ⟨(show _ from hR10.2.2.2.2.1.1).trans hv.symm, code0 I1, hR10, hK10⟩
  refine wp_ite (fun q13 => ?_) (fun q13 => ?_)
  · rw [if_neg q0, if_neg q1, if_neg q2, if_neg q3, if_neg q4, if_neg q5, if_neg q6, if_neg q7, if_neg q8, if_neg q9, if_neg q10, if_neg q11, if_neg q12, if_pos q13] at hv
    have e13 : v1 - 13 = nI 0 := by rw [q13]; decide
    rw [e13]
    refine wp_gd (inb_n (by omega)) (wp_some ⟨?_, code0 I1, hR10, hK10⟩)
    rw [nI_clamp (by omega), hv]; exact hR10.2.1.2.2.2.2 0 (by omega)
  refine wp_ite (fun q14 => ?_) (fun q14 => ?_)
  · rw [if_neg q0, if_neg q1, if_neg q2, if_neg q3, if_neg q4, if_neg q5, if_neg q6, if_neg q7, if_neg q8, if_neg q9, if_neg q10, if_neg q11, if_neg q12, if_neg q13, if_pos q14] at hv
    have e13 : v1 - 13 = nI 1 := by rw [q14]; decide
    rw [e13]
    refine wp_gd (inb_n (by omega)) (wp_some ⟨?_, code0 I1, hR10, hK10⟩)
    rw [nI_clamp (by omega), hv]; exact hR10.2.1.2.2.2.2 1 (by omega)
  refine wp_ite (fun q15 => ?_) (fun q15 => ?_)
  · rw [if_neg q0, if_neg q1, if_neg q2, if_neg q3, if_neg q4, if_neg q5, if_neg q6, if_neg q7, if_neg q8, if_neg q9, if_neg q10, if_neg q11, if_neg q12, if_neg q13, if_neg q14, if_pos q15] at hv
    have e13 : v1 - 13 = nI 2 := by rw [q15]; decide
    rw [e13]
    refine wp_gd (inb_n (by omega)) (wp_some ⟨?_, code0 I1, hR10, hK10⟩)
    rw [nI_clamp (by omega), hv]; exact hR10.2.1.2.2.2.2 2 (by omega)
  exfalso
  obtain ⟨w, hw, ew⟩ := inR_t (by omega) b
  have : w = 0 ∨ w = 1 ∨ w = 2 ∨ w = 3 ∨ w = 4 ∨ w = 5 ∨ w = 6 ∨ w = 7 ∨ w = 8 ∨ w = 9 ∨ w = 10 ∨ w = 11 ∨ w = 12 ∨ w = 13 ∨ w = 14 ∨ w = 15 := by omega
  rcases this with rfl | rfl | rfl | rfl | rfl | rfl | rfl | rfl | rfl | rfl | rfl | rfl | rfl | rfl | rfl | rfl
  · exact q0 ew
  · exact q1 ew
  · exact q2 ew
  · exact q3 ew
  · exact q4 ew
  · exact q5 ew
  · exact q6 ew
  · exact q7 ew
  · exact q8 ew
  · exact q9 ew
  · exact q10 ew
  · exact q11 ew
  · exact q12 ew
  · exact q13 ew
  · exact q14 ew
  · exact q15 ew
theorem r_count_no (hA : AOK a) {v1 : Int32} (hR : GR I a) (b : inR v1 16 = false) : wp (f_X8_count I v1) (fun w => w.2 8 0 0 2 = 1 ∧ GR w.2 a ∧ Kr I w.2) := by
  have ne : ∀ k, k < 16 → v1 ≠ nI k := by
    intro k hk e
    rw [e] at b
    unfold inR at b
    rw [decide_eq_true (nI_pos' (by omega)), decide_eq_true (nI_lt hk (by omega))] at b
    cases b
  unfold f_X8_count
  refine wp_bnd ?_
  refine wp_neg (ne 0 (by omega)) ?_
  refine wp_neg (ne 1 (by omega)) ?_
  refine wp_neg (ne 2 (by omega)) ?_
  refine wp_neg (ne 3 (by omega)) ?_
  refine wp_neg (ne 4 (by omega)) ?_
  refine wp_neg (ne 5 (by omega)) ?_
  refine wp_neg (ne 6 (by omega)) ?_
  refine wp_neg (ne 7 (by omega)) ?_
  refine wp_neg (ne 8 (by omega)) ?_
  refine wp_neg (ne 9 (by omega)) ?_
  refine wp_neg (ne 10 (by omega)) ?_
  refine wp_neg (ne 11 (by omega)) ?_
  refine wp_neg (ne 12 (by omega)) ?_
  refine wp_neg (ne 13 (by omega)) ?_
  refine wp_neg (ne 14 (by omega)) ?_
  refine wp_neg (ne 15 (by omega)) ?_
  exact r_fail1 hR 1
theorem p_count (h : G I P) (v1 : Int32) : Pr (f_L_count I P O D n v1) (fun I => f_X8_count I v1) n := by
  obtain ⟨l, a, hA, hC, hR⟩ := h
  refine L_q hA hC hR ?_
  have hC0 := hC
  obtain ⟨⟨p1, p2, p3⟩, c1, c2, c3, c4, c5, c6, c7⟩ := hC
  cases b : inR v1 16
  · have ne : ∀ k, k < 16 → v1 ≠ nI k := by
      intro k hk e
      rw [e] at b
      unfold inR at b
      rw [decide_eq_true (nI_pos' (by omega)), decide_eq_true (nI_lt hk (by omega))] at b
      cases b
    unfold f_X7_count
    refine wp_neg (ne 0 (by omega)) ?_
    refine wp_neg (ne 1 (by omega)) ?_
    refine wp_neg (ne 2 (by omega)) ?_
    refine wp_neg (ne 3 (by omega)) ?_
    refine wp_neg (ne 4 (by omega)) ?_
    refine wp_neg (ne 5 (by omega)) ?_
    refine wp_neg (ne 6 (by omega)) ?_
    refine wp_neg (ne 7 (by omega)) ?_
    refine wp_neg (ne 8 (by omega)) ?_
    refine wp_neg (ne 9 (by omega)) ?_
    refine wp_neg (ne 10 (by omega)) ?_
    refine wp_neg (ne 11 (by omega)) ?_
    refine wp_neg (ne 12 (by omega)) ?_
    refine wp_neg (ne 13 (by omega)) ?_
    refine wp_neg (ne 14 (by omega)) ?_
    refine wp_neg (ne 15 (by omega)) ?_
    exact wp_some (Or.inr ⟨rfl, r_count_no hA hR b⟩)
  · have fin : ∀ v, v = cnt a v1 → wp (some (Sum.inl (v, I, P))) (Qr I P l a (fun I => f_X8_count I v1)) := fun v hv => wp_some (Or.inl ⟨v, I, P, rfl, hC0, Kc.rfl, fun hR1 => r_count hA hR1 b hv⟩)
    have hcnt : cnt a v1 = cnt a v1 := rfl
    conv at hcnt => lhs; unfold cnt
    unfold f_X7_count
    rw [p1]
    refine wp_ite (fun q0 => ?_) (fun q0 => ?_)
    · rw [if_pos q0] at hcnt
      exact wp_gd (dlt p2) (fin _ ((c1.2.1).trans hcnt))
    refine wp_ite (fun q1 => ?_) (fun q1 => ?_)
    · rw [if_neg q0, if_pos q1] at hcnt
      exact wp_gd (dlt p2) (fin _ ((c1.2.2.2.2.2.2.2.2.2).trans hcnt))
    refine wp_ite (fun q2 => ?_) (fun q2 => ?_)
    · rw [if_neg q0, if_neg q1, if_pos q2] at hcnt
      have eg : f_X3_gossipTenths I l = some (lgg (yL a)) := by
        unfold f_X3_gossipTenths
        rw [c1.2.2.2.2.2.2.2.2.1]
        split <;> rfl
      refine wp_gd (dlt p2) (wp_bindE _ eg (fin _ hcnt))
    refine wp_ite (fun q3 => ?_) (fun q3 => ?_)
    · rw [if_neg q0, if_neg q1, if_neg q2, if_pos q3] at hcnt
      exact wp_gd (dlt p2) (fin _ ((c1.1.1).trans hcnt))
    refine wp_ite (fun q4 => ?_) (fun q4 => ?_)
    · rw [if_neg q0, if_neg q1, if_neg q2, if_neg q3, if_pos q4] at hcnt
      exact wp_gd (dlt p2) (fin _ ((c1.2.2.1).trans hcnt))
    refine wp_ite (fun q5 => ?_) (fun q5 => ?_)
    · rw [if_neg q0, if_neg q1, if_neg q2, if_neg q3, if_neg q4, if_pos q5] at hcnt
      exact fin _ ((show _ from c2.1.2.1).trans hcnt)
    refine wp_ite (fun q6 => ?_) (fun q6 => ?_)
    · rw [if_neg q0, if_neg q1, if_neg q2, if_neg q3, if_neg q4, if_neg q5, if_pos q6] at hcnt
      exact fin _ ((show _ from c2.1.2.2.1.1).trans hcnt)
    refine wp_ite (fun q7 => ?_) (fun q7 => ?_)
    · rw [if_neg q0, if_neg q1, if_neg q2, if_neg q3, if_neg q4, if_neg q5, if_neg q6, if_pos q7] at hcnt
      exact fin _ ((show _ from c2.1.2.2.2.1.1).trans hcnt)
    refine wp_ite (fun q8 => ?_) (fun q8 => ?_)
    · rw [if_neg q0, if_neg q1, if_neg q2, if_neg q3, if_neg q4, if_neg q5, if_neg q6, if_neg q7, if_pos q8] at hcnt
      exact fin _ ((show _ from c2.1.2.2.2.2.1).trans hcnt)
    refine wp_ite (fun q9 => ?_) (fun q9 => ?_)
    · rw [if_neg q0, if_neg q1, if_neg q2, if_neg q3, if_neg q4, if_neg q5, if_neg q6, if_neg q7, if_neg q8, if_pos q9] at hcnt
      refine Q_court hA hC0 ?_
      intro I1 P1 hC1 hst
      refine wp_bindE _ (q_many hA hC1 hst) ?_
      exact q2_same hC1 (fun hR1 => r_count hA hR1 b hcnt)
    refine wp_ite (fun q10 => ?_) (fun q10 => ?_)
    · rw [if_neg q0, if_neg q1, if_neg q2, if_neg q3, if_neg q4, if_neg q5, if_neg q6, if_neg q7, if_neg q8, if_neg q9, if_pos q10] at hcnt
      exact fin _ ((show _ from c2.2.1.1).trans hcnt)
    refine wp_ite (fun q11 => ?_) (fun q11 => ?_)
    · rw [if_neg q0, if_neg q1, if_neg q2, if_neg q3, if_neg q4, if_neg q5, if_neg q6, if_neg q7, if_neg q8, if_neg q9, if_neg q10, if_pos q11] at hcnt
      exact fin _ ((show _ from c2.2.2.1.1).trans hcnt)
    refine wp_ite (fun q12 => ?_) (fun q12 => ?_)
    · rw [if_neg q0, if_neg q1, if_neg q2, if_neg q3, if_neg q4, if_neg q5, if_neg q6, if_neg q7, if_neg q8, if_neg q9, if_neg q10, if_neg q11, if_pos q12] at hcnt
      exact fin _ ((show _ from c5.1).trans hcnt)
    refine wp_ite (fun q13 => ?_) (fun q13 => ?_)
    · rw [if_neg q0, if_neg q1, if_neg q2, if_neg q3, if_neg q4, if_neg q5, if_neg q6, if_neg q7, if_neg q8, if_neg q9, if_neg q10, if_neg q11, if_neg q12, if_pos q13] at hcnt
      exact fin _ ((show _ from c2.2.2.2 0 (by omega)).trans hcnt)
    refine wp_ite (fun q14 => ?_) (fun q14 => ?_)
    · rw [if_neg q0, if_neg q1, if_neg q2, if_neg q3, if_neg q4, if_neg q5, if_neg q6, if_neg q7, if_neg q8, if_neg q9, if_neg q10, if_neg q11, if_neg q12, if_neg q13, if_pos q14] at hcnt
      exact fin _ ((show _ from c2.2.2.2 1 (by omega)).trans hcnt)
    refine wp_ite (fun q15 => ?_) (fun q15 => ?_)
    · rw [if_neg q0, if_neg q1, if_neg q2, if_neg q3, if_neg q4, if_neg q5, if_neg q6, if_neg q7, if_neg q8, if_neg q9, if_neg q10, if_neg q11, if_neg q12, if_neg q13, if_neg q14, if_pos q15] at hcnt
      exact fin _ ((show _ from c2.2.2.2 2 (by omega)).trans hcnt)
    exfalso
    obtain ⟨w, hw, ew⟩ := inR_t (by omega) b
    have : w = 0 ∨ w = 1 ∨ w = 2 ∨ w = 3 ∨ w = 4 ∨ w = 5 ∨ w = 6 ∨ w = 7 ∨ w = 8 ∨ w = 9 ∨ w = 10 ∨ w = 11 ∨ w = 12 ∨ w = 13 ∨ w = 14 ∨ w = 15 := by omega
    rcases this with rfl | rfl | rfl | rfl | rfl | rfl | rfl | rfl | rfl | rfl | rfl | rfl | rfl | rfl | rfl | rfl
    · exact q0 ew
    · exact q1 ew
    · exact q2 ew
    · exact q3 ew
    · exact q4 ew
    · exact q5 ew
    · exact q6 ew
    · exact q7 ew
    · exact q8 ew
    · exact q9 ew
    · exact q10 ew
    · exact q11 ew
    · exact q12 ew
    · exact q13 ew
    · exact q14 ew
    · exact q15 ew
/-- the least day of news, out of a telling -/
theorem r_news_42 {L : Land} {B : Ben} {tw : Nat → Nat → Nat} {dy : Nat → Nat → Int32} {mt : Nat → Nat → Int32} {df mu mc : Int32} {I3 : Mem} (hL : LOK L) (hS : SOK L tw dy) (rq : qRQ I3 L B tw dy mt df mu mc) {c t : Nat} (hc : c < lC L) (ht : t < lT L) {p : Int32 → Bool} : ∀ m fu k, k + m = lJ L → m < fu →
    wp (f_X8_news_42 fu I3 (nI c) (nI t) (nv (mw (fun x => p x || ex (nwsJ (lnw L) (qtl L B tw dy) (qsn L B tw dy) (qsd L B tw dy) c t x) 0 k))) (nI k)) (fun w => w.1 = mw (fun x => p x || ex (nwsJ (lnw L) (qtl L B tw dy) (qsn L B tw dy) (qsd L B tw dy) c t x) 0 (lJ L)) ∧ w.2 = I3) := by
  have hJ5 := hL.2.1
  have hs := q_sdW (B := B) hS
  intro m
  induction m with
  | zero =>
    intro fu k hk hf
    obtain ⟨g, rfl⟩ := Nat.exists_eq_succ_of_ne_zero (by omega : fu ≠ 0)
    have hk' : k = lJ L := by omega
    subst hk'
    unfold f_X8_news_42
    rw [rq.1.1]
    refine wp_pos (by rw [nI_leI (by omega) (by omega)]; omega) (wp_bindE _ (nv_or ?_) (wp_some ⟨rfl, rfl⟩))
    rcases mw_b (fun x => p x || ex (nwsJ (lnw L) (qtl L B tw dy) (qsn L B tw dy) (qsd L B tw dy) c t x) 0 (lJ L)) with e | ⟨d, hd, e⟩
    · exact Or.inl e
    · right; rw [e, nI_toInt (by omega)]; omega
  | succ m ih =>
    intro fu k hk hf
    obtain ⟨g, rfl⟩ := Nat.exists_eq_succ_of_ne_zero (by omega : fu ≠ 0)
    unfold f_X8_news_42
    rw [rq.1.1]
    refine wp_neg (by rw [nI_leI (by omega) (by omega)]; omega) ?_
    refine wp_bindE _ (r_newsBy rq.2.1 rq.2.2.2.1 hs hL.2.2.1 hJ5 hc (by omega : k < lJ L) ht) (wp_bnd ?_)
    rw [nI_1]
    have ih' := ih g (k + 1) (by omega) (by omega)
    have es : ∀ x, (p x || ex (nwsJ (lnw L) (qtl L B tw dy) (qsn L B tw dy) (qsd L B tw dy) c t x) 0 (k + 1)) = ((p x || ex (nwsJ (lnw L) (qtl L B tw dy) (qsn L B tw dy) (qsd L B tw dy) c t x) 0 k) || nwsJ (lnw L) (qtl L B tw dy) (qsn L B tw dy) (qsd L B tw dy) c t x k) := by
      intro x; rw [ex_snoc, Nat.zero_add, Bool.or_assoc]
    have key : jmin (nv (mw (fun x => p x || ex (nwsJ (lnw L) (qtl L B tw dy) (qsn L B tw dy) (qsd L B tw dy) c t x) 0 k))) (if qtl L B tw dy c k = true then qsd L B tw dy c k + nv (lnw L (qsn L B tw dy c k) t) else 100000) = nv (mw (fun x => p x || ex (nwsJ (lnw L) (qtl L B tw dy) (qsn L B tw dy) (qsd L B tw dy) c t x) 0 (k + 1))) := by
      simp only [es]
      cases e : qtl L B tw dy c k
      · have : ∀ x, nwsJ (lnw L) (qtl L B tw dy) (qsn L B tw dy) (qsd L B tw dy) c t x k = false := fun x => by unfold nwsJ; simp [e]
        simp only [this, Bool.or_false]
        rw [if_neg (by decide)]
        unfold jmin
        rw [if_neg]
        rcases mw_b (fun x => p x || ex (nwsJ (lnw L) (qtl L B tw dy) (qsn L B tw dy) (qsd L B tw dy) c t x) 0 k) with e | ⟨d, hd, e⟩
        · rw [e]; decide
        · rw [e, nv, if_neg (nI_ni (by omega)), n_1e5, nI_ltI (by omega) (by omega)]; omega
      · have : ∀ x, nwsJ (lnw L) (qtl L B tw dy) (qsn L B tw dy) (qsd L B tw dy) c t x k = arv (lnw L) (qsn L B tw dy c k) (qsd L B tw dy c k) t x := fun x => by unfold nwsJ; simp [e]
        simp only [this, if_true]
        obtain ⟨a1, a2, a3, a4⟩ := (hs c hc k (by omega)).1 e
        exact r_min (wyB_n rq.2.1.2.2.2) a4 ht ⟨a1, a2⟩
    rw [key]
    exact ih'
theorem p_news (h : G I P) (v1 v2 : Int32) : Pr (f_L_news I P O D n v1 v2) (fun I => f_X8_news I v1 v2) n := by
  obtain ⟨l, a, hA, hC, hR⟩ := h
  have hJ5 := hA.1.2.1
  have hC6 := hA.1.2.2.1
  have hT9 := hA.1.1
  obtain ⟨hR0, hK0⟩ := r_code hR 0
  refine L_q hA hC hR ?_
  unfold f_X7_news
  have no : inR v1 (lC (yL a)) = false ∨ inR v2 (lT (yL a)) = false → wp (f_X8_news I v1 v2) (fun w => w.2 8 0 0 2 = 1 ∧ GR w.2 a ∧ Kr I w.2) := by
    intro q
    unfold f_X8_news
    refine wp_bnd (wp_bindE _ (r_case hA hR0 v1) ?_)
    refine wp_ite (fun _ => r_fail1 hR 1) (fun q1 => wp_bindE _ (r_town hA hR0 v2) (wp_ite (fun _ => r_fail1 hR 1) (fun q2 => ?_)))
    rcases q with q | q
    · exact absurd (bI_0.mpr q) q1
    · exact absurd (bI_0.mpr q) q2
  refine wp_thb (q_case hA hC v1) (fun b1 => wp_thb (q_town hA hC v2) (fun b2 => ?_) (fun b2 => Or.inr ⟨rfl, no (by simp [b2])⟩)) (fun b1 => Or.inr ⟨rfl, no (by simp [b1])⟩)
  obtain ⟨c, hc, rfl⟩ := inR_t (by omega) b1
  obtain ⟨t, ht, rfl⟩ := inR_t (by omega) b2
  refine Q_court hA hC ?_
  intro I1 P1 hC1 hst
  have S := B_SOK hA.1 (A_BOK hA).1 (fun _ => false)
  have hsd := q_sdW (B := xB (yE a)) S
  obtain ⟨s1, s2, s3, s4, s5, s6⟩ := hst
  have nwd := CL_cNW (P := P1) (z := 0) hA.1 (A_BOK hA) hC1.2.1 hC1.2.2.1.1 s1
  have ec := c_news (I := I1) (P := P1) s4 s2 s5 hsd nwd.1 (wyB_n hA.1.2.2.2.2.2.2.2.2) nwd.2.1 (A_BOK hA).2.2.2.2.2 hC6 hc ht
  refine wp_bindE _ ec ?_
  refine q2_same hC1 (fun hR1 => ?_)
  obtain ⟨hR10, _⟩ := r_code hR1 0
  unfold f_X8_news
  refine wp_bnd (wp_bindE _ (r_case hA hR10 _) ?_)
  rw [b1]
  refine wp_neg (by decide) (wp_bindE _ (r_town hA hR10 _) ?_)
  rw [b2]
  refine wp_neg (by decide) (R_tell hA hR1 ?_)
  rintro ⟨u, I3⟩ _ rq rj
  have rq' : qRQ I3 (yL a) (xB (yE a)) (tw0 (yL a)) (dy0 (yL a) (xB (yE a))) _ _ _ _ := rq
  refine wp_bindE _ (r_byWord (I := I3) (c := c) rq'.2.1 rq'.2.2.1 (A_BOK hA).2.2.2.2.1 (A_BOK hA).2.2.2.2.2 ht) ?_
  have r := r_news_42 (p := fun x => ex (nwsW (lnw (yL a)) (bw1 (xB (yE a))) (bwt (xB (yE a))) (bw3 (xB (yE a))) c t x) 0 (bn (xB (yE a)))) hA.1 S rq' hc ht (lJ (yL a)) FU 0 (by omega) (by unfold FU; omega)
  simp only [ex, Bool.or_false] at r
  refine wp_mono r ?_
  rintro w ⟨w1, w2⟩
  refine ⟨w1.trans ?_, w2⟩
  refine mw_cong fun x _ => ?_
  rw [Bool.or_comm]
end
