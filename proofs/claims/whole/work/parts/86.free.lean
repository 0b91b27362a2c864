/-! pairs of calls: free and sent, to their end -/
theorem nI_surj (x : Int32) : ∃ t, x = nI t := ⟨x.toBitVec.toNat, Int32.toBitVec_inj.mp (by show _ = BitVec.ofNat 32 _; simp)⟩
theorem divT {k T : Nat} (hk : k < 2 ^ 31) (h0 : 0 < T) (hT : T < 2 ^ 31) : nI k / nI T = nI (k / T) ∧ jrem (nI k) (nI T) = nI (k % T) := ⟨pk_div hk h0 hT, pk_rem hk h0 hT⟩
section
variable {I : Mem} {P : PMem} {l : Nat} {a : Abs} {O : Nat → Int64} {D : Bool} {n : Nat}
/-- a word more than there are -/
def xW (a : Abs) (I3 : Mem) : Prop := ∃ c t d, qRQ I3 (yL a) (bWord (xB (yE a)) c t d) (tw0 (yL a)) (dy0 (yL a) (xB (yE a))) (qmt (yL a) (xB (yE a)) (tw0 (yL a)) (dy0 (yL a) (xB (yE a))) (binns (xB (yE a)))) (qdf (yL a)) 0 (-1)
theorem xW_30 {I3 : Mem} (h : xW a I3) : I3 8 0 0 30 = nI (bn (xB (yE a)) + 1) := by
  obtain ⟨c, t, d, rq⟩ := h
  exact rq.2.2.1.1
theorem xW_begin {I3 : Mem} (rq : qRQ I3 (yL a) (xB (yE a)) (tw0 (yL a)) (dy0 (yL a) (xB (yE a))) (qmt (yL a) (xB (yE a)) (tw0 (yL a)) (dy0 (yL a) (xB (yE a))) (binns (xB (yE a)))) (qdf (yL a)) 0 (-1)) : xW a (upd4 I3 8 0 0 30 (I3 8 0 0 30 + 1)) ∧ T9 (bn (xB (yE a))) I3 (upd4 I3 8 0 0 30 (I3 8 0 0 30 + 1)) := by
  obtain ⟨t, ht⟩ := nI_surj (I3 62 0 0 (3 * bn (xB (yE a)) + 1))
  obtain ⟨q1, q2, q3, q4, q5, q6, q7, q8, q9⟩ := rq
  have u : ∀ c, c ≠ 8 → upd4 I3 8 0 0 30 (I3 8 0 0 30 + 1) c = I3 c := fun c hc => u_c hc
  have uf : ∀ f, f ≠ 30 → upd4 I3 8 0 0 30 (I3 8 0 0 30 + 1) 8 0 0 f = I3 8 0 0 f := fun f hf => by rw [u_if, if_neg (fun q => hf q.2)]
  refine ⟨⟨I3 62 0 0 (3 * bn (xB (yE a))), t, I3 62 0 0 (3 * bn (xB (yE a)) + 2), ?_, ?_, ?_, ?_, ?_, ?_, ?_, ?_, ?_⟩, ⟨Fr.up (by simp [LT9, LT8]), fun f _ _ h => uf f h, uf 2 (by omega), fun x _ => by rw [u 62 (by omega)]⟩⟩
  · unfold rJ; rw [u 50 (by omega), u 55 (by omega), u 68 (by omega), u 69 (by omega)]; exact q1
  · unfold rN; rw [u 50 (by omega), u 61 (by omega)]; exact q2
  · refine ⟨?_, fun k hk => ?_⟩
    · rw [u_at, q3.1, nI_1]; rfl
    · have hk' : k < bn (xB (yE a)) + 1 := hk
      rw [u 62 (by omega)]
      show _ = (if k = bn (xB (yE a)) then _ else bw1 (xB (yE a)) k) ∧ _ = nI (if k = bn (xB (yE a)) then t else bwt (xB (yE a)) k) ∧ _ = (if k = bn (xB (yE a)) then _ else bw3 (xB (yE a)) k)
      by_cases e : k = bn (xB (yE a))
      · rw [if_pos e, if_pos e, if_pos e, e]; exact ⟨rfl, ht, rfl⟩
      · rw [if_neg e, if_neg e, if_neg e]; exact q3.2 k (by omega)
  · unfold vR; rw [u 71 (by omega), u 72 (by omega), u 73 (by omega)]; exact q4
  · rw [u 70 (by omega)]; exact q5
  · rw [uf 41 (by omega)]; exact q6
  · rw [uf 42 (by omega)]; exact q7
  · rw [uf 43 (by omega)]; exact q8
  · rw [u 50 (by omega)]; exact q9
theorem xW_put (hA : AOK a) {I3 : Mem} (h : xW a I3) (c : Int32) (t : Nat) (d : Int32) :
    wp (f_X8_putRow 62 0 0 I3 (I3 8 0 0 30 - 1) c (nI t) d) (fun I4 => qRQ I4 (yL a) (bWord (xB (yE a)) c t d) (tw0 (yL a)) (dy0 (yL a) (xB (yE a))) (qmt (yL a) (xB (yE a)) (tw0 (yL a)) (dy0 (yL a) (xB (yE a))) (binns (xB (yE a)))) (qdf (yL a)) 0 (-1) ∧ T9 (bn (xB (yE a))) I3 I4 ∧ I4 8 0 = I3 8 0) := by
  obtain ⟨c', t', d', rq⟩ := h
  have h4 : bn (xB (yE a)) ≤ 4 := (hA.2.1.1 _ (Nat.le_refl _)).2.1
  refine wp_mono (r_put (B := xB (yE a)) h4 ⟨bWord (xB (yE a)) c' t' d', rfl, fun k hk => ⟨?_, ?_, ?_⟩, rfl, rfl, rfl, rfl, rfl, rfl, rfl, rfl, rfl, rfl, rq⟩) ?_
  · exact if_neg (by omega)
  · exact if_neg (by omega)
  · exact if_neg (by omega)
  · rintro I4 ⟨q1, q2, _, q4⟩
    exact ⟨q1, q2, q4⟩
/-- the words as they were -/
theorem T9_end {n : Nat} {I3 : Mem} (h : I3 8 0 0 30 = nI (n + 1)) : T9 n I3 (upd4 I3 8 0 0 30 (I3 8 0 0 30 - 1)) ∧ upd4 I3 8 0 0 30 (I3 8 0 0 30 - 1) 8 0 0 30 = nI n := by
  have uf : ∀ f, f ≠ 30 → upd4 I3 8 0 0 30 (I3 8 0 0 30 - 1) 8 0 0 f = I3 8 0 0 f := fun f hf => by rw [u_if, if_neg (fun q => hf q.2)]
  refine ⟨⟨Fr.up (by simp [LT9, LT8]), fun f _ _ h => uf f h, uf 2 (by omega), fun x _ => by rw [u_c (by decide)]⟩, ?_⟩
  rw [u_at, h, nI_p1 (by omega)]; rfl
theorem r_free_62 (hA : AOK a) {c : Nat} (hc : c < lC (yL a)) {v2 : Int32} : ∀ m fu k I3, k + m = lT (yL a) * 61 → m + 1 < fu → xW a I3 → I3 50 0 0 0 = nI (lT (yL a)) →
    wp (f_X8_free_62 fu I3 (nI c) v2 (-1) (nI k)) (fun w => w.1 = fan (lT (yL a)) v2 (lT (yL a) * 61) (ff (fpq a c) k m) ∧ T9 (bn (xB (yE a))) I3 w.2 ∧ w.2 8 0 0 30 = nI (bn (xB (yE a)))) := by
  have hC6 := hA.1.2.2.1
  have hT9 := hA.1.1
  have hJ5 := hA.1.2.1
  have S := B_SOK hA.1 (A_BOK hA).1 (fun _ => false)
  have h4 : bn (xB (yE a)) ≤ 4 := (hA.2.1.1 _ (Nat.le_refl _)).2.1
  intro m
  induction m with
  | zero =>
    intro fu k I3 hk hf hx h50
    obtain ⟨g, rfl⟩ := Nat.exists_eq_succ_of_ne_zero (by omega : fu ≠ 0)
    obtain ⟨t1, t2⟩ := T9_end (xW_30 hx)
    unfold f_X8_free_62
    rw [h50, n_61, pk_mul]
    refine wp_pos (by rw [nI_leI (by omega) (by omega)]; omega) ?_
    unfold f_X8_free_142
    refine wp_bnd (wp_pos rfl (wp_some ⟨?_, t1, t2⟩))
    rw [ff, fan, if_neg (by omega)]
  | succ m ih =>
    intro fu k I3 hk hf hx h50
    obtain ⟨g, rfl⟩ := Nat.exists_eq_succ_of_ne_zero (by omega : fu ≠ 0)
    have hT0 : 0 < lT (yL a) := by
      by_cases e : lT (yL a) = 0
      · rw [e] at hk; omega
      · omega
    obtain ⟨dv, rm⟩ := divT (k := k) (T := lT (yL a)) (by omega) hT0 (by omega)
    have hne : (nI (lT (yL a)) != 0) = true := by simp [nI_ne0 hT0 (by omega)]
    unfold f_X8_free_62
    rw [h50, n_61, pk_mul]
    refine wp_neg (by rw [nI_leI (by omega) (by omega)]; omega) (wp_pos rfl (wp_gd hne ?_))
    rw [dv, rm]
    refine wp_bind (xW_put hA hx (nI c) (k % lT (yL a)) (nI (k / lT (yL a)))) ?_
    rintro I4 ⟨rq4, t4, e8⟩
    have hd60 : k / lT (yL a) ≤ 60 := by
      have : k / lT (yL a) < 61 := Nat.div_lt_of_lt_mul (by omega)
      omega
    have hq : ∀ x, x ≤ 60 → 0 ≤ (nI x).toInt ∧ (nI x).toInt ≤ 114 := fun x hx => by rw [nI_toInt (by omega)]; omega
    have hB4 := bWord_ok (c := nI c) (A_BOK hA) h4 (Nat.mod_lt k hT0) (d := nI (k / lT (yL a))) (hq _ hd60)
    refine wp_bind (r_jq hA.1 hB4 S rq4 hc) ?_
    rintro I5 ⟨t5, rq5, d5⟩
    refine wp_gd (inb_n (by omega)) ?_
    rw [nI_clamp (by omega), nI_1]
    have t35 : T9 (bn (xB (yE a))) I3 I5 := t4.tr t5.t9
    have h50' : I5 50 0 0 0 = nI (lT (yL a)) := by rw [t35.1.g (c := 50) (z := 0) (by simp [LT9, LT8, LT])]; exact h50
    have d6 : I5 75 0 0 c < 100000 ↔ fpq a c k = false := by
      rw [more0] at d5
      have e := bWord_tr (L := yL a) (B := xB (yE a)) (tw := tw0 (yL a)) (dy := dy0 (yL a) (xB (yE a))) (inns := binns (xB (yE a))) (df := qdf (yL a)) (c := c) (t := k % lT (yL a)) (d := nI (k / lT (yL a))) hJ5 (by omega)
      have d7 : I5 75 0 0 c < 100000 ↔ ¬ (qtr (yL a) (bWord (xB (yE a)) (nI c) (k % lT (yL a)) (nI (k / lT (yL a)))) (tw0 (yL a)) (dy0 (yL a) (xB (yE a))) (binns (xB (yE a))) 0 (qdf (yL a)) c).1 = 0 := d5
      rw [e] at d7
      rw [d7]
      unfold fpq
      exact decide_eq_false_iff_not.symm
    refine wp_ite (fun q => ?_) (fun q => ?_)
    · have e9 : ff (fpq a c) k (m + 1) = ff (fpq a c) (k + 1) m := by rw [ff, d6.mp q, if_neg (by decide)]
      rw [e9]
      refine wp_mono (ih g (k + 1) I5 (by omega) (by omega) ⟨_, _, _, rq5⟩ h50') ?_
      rintro w ⟨w1, w2, w3⟩
      exact ⟨w1, t35.tr w2, w3⟩
    · have qt : fpq a c k = true := by
        cases e : fpq a c k
        · exact absurd (d6.mpr e) q
        · rfl
      have e9 : ff (fpq a c) k (m + 1) = k := by rw [ff, qt, if_pos rfl]
      have fin : wp (f_X8_free_142 I5 v2 (nI k)) (fun w => w.1 = fan (lT (yL a)) v2 (lT (yL a) * 61) k ∧ T9 (bn (xB (yE a))) I3 w.2 ∧ w.2 8 0 0 30 = nI (bn (xB (yE a)))) := by
        obtain ⟨t1, t2⟩ := T9_end (xW_30 (a := a) ⟨_, _, _, rq5⟩)
        unfold f_X8_free_142
        refine wp_bnd (wp_neg (nI_ni (by omega)) ?_)
        rw [u_c (show (50 : Nat) ≠ 8 by decide), h50', dv, rm]
        refine wp_ite (fun q2 => wp_gd hne (wp_some ⟨?_, t35.tr t1, t2⟩)) (fun q2 => wp_gd hne (wp_some ⟨?_, t35.tr t1, t2⟩))
        · rw [fan, if_pos (by omega), if_pos q2]
        · rw [fan, if_pos (by omega), if_neg q2]
      rw [e9]
      obtain ⟨g', rfl⟩ := Nat.exists_eq_succ_of_ne_zero (by omega : g ≠ 0)
      unfold f_X8_free_62
      refine wp_ite (fun _ => fin) (fun _ => wp_neg (nI_ni (by omega)) fin)
theorem p_free (h : G I P) (v1 v2 : Int32) : Pr (f_L_free I P O D n v1 v2) (fun I => f_X8_free I v1 v2) n := by
  obtain ⟨l, a, hA, hC, hR⟩ := h
  have hC6 := hA.1.2.2.1
  have hJ5 := hA.1.2.1
  have hT9 := hA.1.1
  obtain ⟨hR0, hK0⟩ := r_code hR 0
  refine L_q hA hC hR ?_
  unfold f_X7_free
  have no : inR v1 (lC (yL a)) = false ∨ inR v2 2 = false → wp (f_X8_free I v1 v2) (fun w => w.2 8 0 0 2 = 1 ∧ GR w.2 a ∧ Kr I w.2) := by
    intro q
    unfold f_X8_free
    refine wp_bnd (wp_bindE _ (r_case hA hR0 v1) ?_)
    rw [n_1, ifw (by omega)]
    refine wp_ite (fun _ => r_fail1 hR 1) (fun q1 => wp_neg ?_ (r_fail1 hR 1))
    rcases q with q | q
    · exact absurd (bI_0.mpr q) q1
    · rw [q]; decide
  refine wp_thb (q_case hA hC v1) (fun b1 => wp_thb (q_what I v2 (n := 1) (by omega)) (fun b2 => ?_) (fun b2 => Or.inr ⟨rfl, no (by simp [b2])⟩)) (fun b1 => Or.inr ⟨rfl, no (by simp [b1])⟩)
  obtain ⟨c, hc, rfl⟩ := inR_t (by omega) b1
  refine Q_court hA hC ?_
  intro I1 P1 hC1 hst
  refine wp_gd (inb_n (by omega)) ?_
  have e24 := hst.2.2.2.2.2 c hc
  show wp (if I1 24 0 0 _ = 0 then _ else _) _
  rw [nI_clamp (by omega), e24]
  have ref : ∀ v, v = (if (qtr (yL a) (xB (yE a)) (tw0 (yL a)) (dy0 (yL a) (xB (yE a))) (binns (xB (yE a))) 0 (qdf (yL a)) c).1 = 0 then -2 else fan (lT (yL a)) v2 (lT (yL a) * 61) (ff (fpq a c) 0 (lT (yL a) * 61))) → GR I1 a → wp (f_X8_free I1 (nI c) v2) (fun w => w.1 = v ∧ w.2 8 0 0 2 = 0 ∧ GR w.2 a ∧ Kr I1 w.2) := by
    intro v hv hR1
    obtain ⟨hR10, _⟩ := r_code hR1 0
    unfold f_X8_free
    refine wp_bnd (wp_bindE _ (r_case hA hR10 _) ?_)
    rw [b1, n_1, ifw (by omega)]
    refine wp_neg (by decide) (wp_pos b2 (R_tell3 hA hR1 ?_))
    rintro ⟨u, I3⟩ rq rj hR3
    refine wp_gd (inb_n (by omega)) ?_
    obtain ⟨_, _, j3⟩ := rj c hc
    rw [more0] at j3
    show wp (if I3 75 0 0 _ < 100000 then _ else _) _
    rw [nI_clamp (by omega), show I3 75 0 0 c = _ from j3]
    have rq' : qRQ I3 (yL a) (xB (yE a)) (tw0 (yL a)) (dy0 (yL a) (xB (yE a))) (qmt (yL a) (xB (yE a)) (tw0 (yL a)) (dy0 (yL a) (xB (yE a))) (binns (xB (yE a)))) (qdf (yL a)) 0 (-1) := rq
    have hbn : I3 8 0 0 30 = nI (bn (xB (yE a))) := rq'.2.2.1.1
    by_cases q : (qtr (yL a) (xB (yE a)) (tw0 (yL a)) (dy0 (yL a) (xB (yE a))) (binns (xB (yE a))) 0 (qdf (yL a)) c).1 = 0
    · rw [if_pos q] at hv ⊢
      refine wp_neg (by decide) (wp_some ⟨hv.symm, T8.rfl.t9, rfl⟩)
    · rw [if_neg q] at hv ⊢
      obtain ⟨d1, d2⟩ := dvq_B hA hc
      have hdv : (qtr (yL a) (xB (yE a)) (tw0 (yL a)) (dy0 (yL a) (xB (yE a))) (binns (xB (yE a))) 0 (qdf (yL a)) c).2 < 100000 := by
        rcases d1 with e | e
        · exact absurd (d2.mp e) q
        · have e' : ((qtr (yL a) (xB (yE a)) (tw0 (yL a)) (dy0 (yL a) (xB (yE a))) (binns (xB (yE a))) 0 (qdf (yL a)) c).2).toInt ≤ 114 := e.2
          rw [n_1e5, fa_lt, nI_toInt (by omega)]; omega
      refine wp_pos hdv (wp_bnd ?_)
      obtain ⟨x1, x2⟩ := xW_begin rq'
      refine wp_mono (r_free_62 hA hc (v2 := v2) (lT (yL a) * 61) FU 0 _ (by omega) (by unfold FU; omega) x1 (by rw [u_c (by decide)]; exact hR3.1.2.2.2.2.1)) ?_
      rintro w ⟨w1, w2, w3⟩
      exact ⟨w1.trans hv.symm, x2.tr w2, w3.trans hbn.symm⟩
  refine wp_ite (fun q => ?_) (fun q => ?_)
  · exact q2_same hC1 (ref _ (by rw [if_pos q]))
  · have ec := c_free_30 hA hC1 hst hc (v2 := v2) 61 FU 0 (by omega) (by unfold FU; omega)
    rw [Nat.mul_zero] at ec
    exact wp_of ec ⟨_, I1, P1, rfl, hC1, Kc.rfl, ref _ (by rw [if_neg q])⟩
end
