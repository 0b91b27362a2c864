/-! pairs of calls: feast, flood -/
section
variable {I : Mem} {P : PMem} {l : Nat} {a : Abs} {O : Nat → Int64} {D : Bool} {n : Nat}
theorem i64b (v u x : Int32) {I : Mem} : f_X8_isIn I v.toInt64 u.toInt64 x.toInt64 = some (bI (decide (u ≤ v) && decide (v ≤ x))) := by
  have wl : ∀ a b : Int32, a.toInt64 < b.toInt64 ↔ a < b := fun a b => by rw [Int64.lt_iff_toInt_lt, Int32.lt_iff_toInt_lt, Int32.toInt_toInt64, Int32.toInt_toInt64]
  unfold f_X8_isIn
  simp only [lg_cmp_lt, lg_cmp_gt, wl]
  by_cases e : v < u
  · have : ¬ u ≤ v := (fa_of_lt e).2.1
    simp [e, this, bI]
  · have q := fa_of_nlt e
    by_cases e2 : x < v
    · have : ¬ v ≤ x := (fa_of_lt e2).2.1
      simp [e, e2, this, bI]
    · have := fa_of_nlt e2
      simp [e, e2, q, this, bI]
theorem inR_m {n k : Nat} (h : k < n) (hn : n < 2 ^ 31) : inR (nI k) n = true := by
  unfold inR
  rw [decide_eq_true (nI_pos' (by omega)), decide_eq_true (nI_lt h hn)]; rfl
theorem p_feast (h : G I P) (v1 v2 v3 : Int32) : Pr (f_L_feast I P O D n v1 v2 v3) (fun I => f_X8_feast I v1 v2 v3) n := by
  obtain ⟨l, a, hA, hC, hR⟩ := h
  have hT9 := hA.1.1
  have hsz := A_sz hA
  obtain ⟨hR0, hK0⟩ := r_code hR 0
  refine L_a hA hC hR ?_
  unfold f_X7_feast
  refine wp_thb (q_town hA hC v1) (fun b1 => ?_) (fun b1 => Or.inr ⟨rfl, ?_⟩)
  · obtain ⟨t, ht, rfl⟩ := inR_t (by omega) b1
    have hrow : cRw I 1 (bnf (xB (yE a))) (bf1 (xB (yE a))) (bf2 (xB (yE a))) (bf3 (xB (yE a))) := hC.2.2.1.1.2.2.2.1
    have r4 : rowsLen 1 = 4 := rfl
    have ref : ∀ I1 {Q : Int32 × Mem → Prop}, GR I1 a → (¬ (bnf (xB (yE a)) < 4 ∧ inR v2 100 = true ∧ inR v3 100 = true ∧ v2 ≤ v3) → wp ((f_X8_refuse (upd4 I1 8 0 0 2 0) 1).bind fun y1 => some (y1.1, y1.2)) Q) →
        (bnf (xB (yE a)) < 4 ∧ inR v2 100 = true ∧ inR v3 100 = true ∧ v2 ≤ v3 → wp ((f_X8_keep (upd4 I1 8 0 0 2 0)).bind fun y4 => (f_X8_putRow 63 0 0 y4 (y4 8 0 0 31) (nI t) v2 v3).bind fun y5 => bnd (upd4 y5 8 0 0 31 (y5 8 0 0 31 + 1)) fun I2' => some (I2' 8 0 0 31, I2')) Q) → wp (f_X8_feast I1 (nI t) v2 v3) Q := by
      intro I1 Q hR1 hno hyes
      obtain ⟨r1, r2⟩ := r_code hR1 0
      have e31 : upd4 I1 8 0 0 2 0 8 0 0 31 = nI (bnf (xB (yE a))) := r1.2.1.1.2.2.2.1.1
      unfold f_X8_feast
      refine wp_bnd (wp_bindE _ (r_town hA r1 _) ?_)
      rw [b1, e31, n_4, show (99 : Int64) = (nI 99).toInt64 by decide]
      refine wp_neg (by decide) (wp_ite (fun q => hno ?_) (fun q => ?_))
      · rw [nI_eq (by omega) (by omega)] at q; omega
      · rw [nI_eq (by omega) (by omega)] at q
        refine wp_bindE _ (i99 _ v2) (wp_ite (fun q2 => hno ?_) (fun q2 => wp_bindE _ (i64b v3 v2 (nI 99)) (wp_ite (fun q3 => hno ?_) (fun q3 => hyes ?_))))
        · rw [bI_0.mp q2]; exact fun h => by cases h.2.1
        · intro h
          have h5 := h.2.2.1
          rw [← (inS (v := v3) (n := 99)).resolve_right (by omega)] at h5
          simp only [Bool.and_eq_true, decide_eq_true_eq] at h5
          have := bI_0.mp q3
          rw [decide_eq_true h.2.2.2, decide_eq_true h5.2] at this
          cases this
        · have e2 : inR v2 100 = true := by
            cases e : inR v2 100
            · exact absurd (bI_0.mpr e) q2
            · rfl
          have e3 : (decide (v2 ≤ v3) && decide (v3 ≤ nI 99)) = true := by
            cases e : (decide (v2 ≤ v3) && decide (v3 ≤ nI 99))
            · exact absurd (bI_0.mpr e) q3
            · rfl
          simp only [Bool.and_eq_true, decide_eq_true_eq] at e3
          refine ⟨by omega, e2, ?_, e3.1⟩
          obtain ⟨d, hd, ed⟩ := inR_t (by omega) e2
          rw [← (inS (v := v3) (n := 99)).resolve_right (by omega), decide_eq_true e3.2, Bool.and_true]
          refine decide_eq_true (le_tr ?_ e3.1)
          rw [ed]; exact nI_pos' (by omega)
    have refuse : ¬ (bnf (xB (yE a)) < 4 ∧ inR v2 100 = true ∧ inR v3 100 = true ∧ v2 ≤ v3) → wp (f_X7_feast_41 P I) (Qa I P l a (fun I => f_X8_feast I (nI t) v2 v3)) := by
      intro hq
      unfold f_X7_feast_41
      exact qa_refuse hA hC (fun I1 hR1 => ref I1 hR1 (fun _ => r_refuse1 _) (fun q => absurd q hq))
    refine wp_bindE _ (c_full hrow) ?_
    rw [r4]
    refine wp_ite (fun q => ?_) (fun q => refuse ?_)
    · have q1 : bnf (xB (yE a)) < 4 := by
        have := bI_0.mp q
        by_cases e : bnf (xB (yE a)) < 4
        · exact e
        · rw [decide_eq_false e] at this; cases this
      refine wp_bindE _ (q_outside I v2 (n := 99) (by omega)) (wp_ite (fun q2 => ?_) (fun q2 => refuse ?_))
      · have q2' : inR v2 100 = true := by
          have := bI_0.mp q2
          cases e : inR v2 100
          · rw [e] at this; cases this
          · rfl
        refine wp_bindE _ (q_outside I v3 (n := 99) (by omega)) (wp_ite (fun q3 => ?_) (fun q3 => refuse ?_))
        · have q3' : inR v3 100 = true := by
            have := bI_0.mp q3
            cases e : inR v3 100
            · rw [e] at this; cases this
            · rfl
          refine wp_ite (fun q4 => ?_) (fun q4 => refuse (fun h => q4 h.2.2.2))
          have hok : BOK (yL a) (bFeast (xB (yE a)) (nI t) v2 v3) := by
            obtain ⟨o1, o2, o3⟩ := A_BOK hA
            exact ⟨o1, by show bnf (xB (yE a)) + 1 ≤ 4; omega, o3⟩
          have hu : uRel (lJ (yL a)) 3 (nI t) 0 (xB (yE a)) (bFeast (xB (yE a)) (nI t) v2 v3) := by
            refine ⟨Or.inr (Or.inr (Or.inr (Or.inl ⟨rfl, rfl, fun _ _ => rfl, rfl, rfl, rfl⟩))), fun i _ => ⟨rfl, rfl, rfl⟩, fun i hi => ⟨(if_neg (by omega)).symm, (if_neg (by omega)).symm, (if_neg (by omega)).symm⟩, fun i _ => ⟨rfl, rfl, rfl⟩⟩
          refine c_row (B' := bFeast (xB (yE a)) (nI t) v2 v3) hA hC (by omega) hrow q1 (pushE_ok hA.2.1 ⟨hok, hsz.1, hsz.2.2⟩ hu) ?_ ?_
          · intro I1 F1 c1
            obtain ⟨y1, y2, y3, y4, y5⟩ := hC.2.2.1.1
            exact ⟨by rw [F1.g (c := 9) (z := 0) (by simp [Lrow])]; exact y1, by rw [F1.g (c := 0) (z := 0) (by simp [Lrow])]; exact y2, cR_fr y3 F1 (by simp [Lrow]), c1, cR_fr y5 F1 (by simp [Lrow])⟩
          · intro I1 hR1
            refine ref I1 hR1 (fun q => absurd ⟨q1, q2', q3', q4⟩ q) (fun _ => ?_)
            refine r_row hA hR1 (Or.inr (Or.inl ⟨rfl, rfl⟩)) hR1.2.1.1.2.2.2.1.1 q1 ?_
            intro I3 I4 rb F4 g4 e4 x4
            obtain ⟨y1, y2, y3, y4, y5⟩ := rb
            refine ⟨by rw [F4.g (c := 53) (z := 0) (by simp)]; exact y1, by rw [g4 29 (by omega)]; exact y2, ?_, rR_put y4 e4 x4, ?_⟩
            · unfold rR; rw [g4 30 (by omega), F4.g (c := 62) (z := 0) (by simp)]; exact y3
            · unfold rR; rw [g4 32 (by omega), F4.g (c := 64) (z := 0) (by simp)]; exact y5
        · intro h
          rw [h.2.2.1] at q3
          exact q3 rfl
      · intro h
        rw [h.2.1] at q2
        exact q2 rfl
    · intro h
      rw [decide_eq_true h.1] at q
      exact q rfl
  · unfold f_X8_feast
    refine wp_bnd (wp_bindE _ (r_town hA hR0 v1) ?_)
    rw [b1]
    exact wp_pos rfl (r_fail1 hR 1)
theorem p_flood (h : G I P) (v1 v2 v3 : Int32) : Pr (f_L_flood I P O D n v1 v2 v3) (fun I => f_X8_flood I v1 v2 v3) n := by
  obtain ⟨l, a, hA, hC, hR⟩ := h
  have hT9 := hA.1.1
  have hsz := A_sz hA
  obtain ⟨hR0, hK0⟩ := r_code hR 0
  refine L_a hA hC hR ?_
  unfold f_X7_flood
  have i20 : ∀ J : Mem, f_X8_isIn J v3.toInt64 0 20 = some (bI (inR v3 21)) := by
    intro J
    rw [show (20 : Int64) = (nI 20).toInt64 by decide, i64, (inS (v := v3) (n := 20)).resolve_right (by omega)]
  refine wp_thb (q_town hA hC v1) (fun b1 => ?_) (fun b1 => Or.inr ⟨rfl, ?_⟩)
  · obtain ⟨t, ht, rfl⟩ := inR_t (by omega) b1
    have hrow : cRw I 2 (bnl (xB (yE a))) (fun k => nI (bgt (xB (yE a)) k)) (bg2 (xB (yE a))) (bg3 (xB (yE a))) := hC.2.2.1.1.2.2.2.2
    have r4 : rowsLen 2 = 4 := rfl
    have ref : ∀ I1 {Q : Int32 × Mem → Prop}, GR I1 a → (¬ (bnl (xB (yE a)) < 4 ∧ inR v2 100 = true ∧ inR v3 21 = true) → wp ((f_X8_refuse (upd4 I1 8 0 0 2 0) 1).bind fun y1 => some (y1.1, y1.2)) Q) →
        (bnl (xB (yE a)) < 4 ∧ inR v2 100 = true ∧ inR v3 21 = true → wp ((f_X8_keep (upd4 I1 8 0 0 2 0)).bind fun y4 => (f_X8_putRow 64 0 0 y4 (y4 8 0 0 32) (nI t) v2 v3).bind fun y5 => bnd (upd4 y5 8 0 0 32 (y5 8 0 0 32 + 1)) fun I2' => some (I2' 8 0 0 32, I2')) Q) → wp (f_X8_flood I1 (nI t) v2 v3) Q := by
      intro I1 Q hR1 hno hyes
      obtain ⟨r1, r2⟩ := r_code hR1 0
      have e32 : upd4 I1 8 0 0 2 0 8 0 0 32 = nI (bnl (xB (yE a))) := r1.2.1.1.2.2.2.2.1
      unfold f_X8_flood
      refine wp_bnd (wp_bindE _ (r_town hA r1 _) ?_)
      rw [b1, e32, n_4]
      refine wp_neg (by decide) (wp_ite (fun q => hno ?_) (fun q => ?_))
      · rw [nI_eq (by omega) (by omega)] at q; omega
      · rw [nI_eq (by omega) (by omega)] at q
        refine wp_bindE _ (i99 _ v2) (wp_ite (fun q2 => hno ?_) (fun q2 => wp_bindE _ (i20 _) (wp_ite (fun q3 => hno ?_) (fun q3 => hyes ?_))))
        · rw [bI_0.mp q2]; exact fun h => by cases h.2.1
        · rw [bI_0.mp q3]; exact fun h => by cases h.2.2
        · have e2 : inR v2 100 = true := by
            cases e : inR v2 100
            · exact absurd (bI_0.mpr e) q2
            · rfl
          have e3 : inR v3 21 = true := by
            cases e : inR v3 21
            · exact absurd (bI_0.mpr e) q3
            · rfl
          exact ⟨by omega, e2, e3⟩
    have refuse : ¬ (bnl (xB (yE a)) < 4 ∧ inR v2 100 = true ∧ inR v3 21 = true) → wp (f_X7_flood_36 P I) (Qa I P l a (fun I => f_X8_flood I (nI t) v2 v3)) := by
      intro hq
      unfold f_X7_flood_36
      exact qa_refuse hA hC (fun I1 hR1 => ref I1 hR1 (fun _ => r_refuse1 _) (fun q => absurd q hq))
    refine wp_bindE _ (c_full hrow) ?_
    rw [r4]
    refine wp_ite (fun q => ?_) (fun q => refuse ?_)
    · have q1 : bnl (xB (yE a)) < 4 := by
        have := bI_0.mp q
        by_cases e : bnl (xB (yE a)) < 4
        · exact e
        · rw [decide_eq_false e] at this; cases this
      refine wp_bindE _ (q_outside I v2 (n := 99) (by omega)) (wp_ite (fun q2 => ?_) (fun q2 => refuse ?_))
      · have q2' : inR v2 100 = true := by
          have := bI_0.mp q2
          cases e : inR v2 100
          · rw [e] at this; cases this
          · rfl
        refine wp_bindE _ (q_outside I v3 (n := 20) (by omega)) (wp_ite (fun q3 => ?_) (fun q3 => refuse ?_))
        · have q3' : inR v3 21 = true := by
            have := bI_0.mp q3
            cases e : inR v3 21
            · rw [e] at this; cases this
            · rfl
          obtain ⟨d, hd, ed⟩ := inR_t (by omega) q2'
          obtain ⟨w, hw, ew⟩ := inR_t (by omega) q3'
          have hok : BOK (yL a) (bFlood (xB (yE a)) t v2 v3) := by
            obtain ⟨o1, o2, o3, o4, o5⟩ := A_BOK hA
            refine ⟨o1, o2, by show bnl (xB (yE a)) + 1 ≤ 6; omega, fun k hk => ?_, o5⟩
            have hk' : k < bnl (xB (yE a)) + 1 := hk
            show (if k = bnl (xB (yE a)) then t else bgt (xB (yE a)) k) < lT (yL a) ∧ 0 ≤ (if k = bnl (xB (yE a)) then v2 else bg2 (xB (yE a)) k).toInt ∧ (if k = bnl (xB (yE a)) then v2 else bg2 (xB (yE a)) k).toInt ≤ 114 ∧ (if k = bnl (xB (yE a)) then v3 else bg3 (xB (yE a)) k).toInt ≤ 1000
            by_cases e : k = bnl (xB (yE a))
            · rw [if_pos e, if_pos e, if_pos e, ed, ew, nI_toInt (by omega), nI_toInt (by omega)]
              exact ⟨ht, by omega, by omega, by omega⟩
            · rw [if_neg e, if_neg e, if_neg e]; exact o4 k (by omega)
          have hu : uRel (lJ (yL a)) 4 (nI t) 0 (xB (yE a)) (bFlood (xB (yE a)) t v2 v3) := by
            refine ⟨Or.inr (Or.inr (Or.inr (Or.inr ⟨rfl, rfl, fun _ _ => rfl, rfl, rfl, rfl⟩))), fun i _ => ⟨rfl, rfl, rfl⟩, fun i _ => ⟨rfl, rfl, rfl⟩, fun i hi => ⟨(if_neg (by omega)).symm, (if_neg (by omega)).symm, (if_neg (by omega)).symm⟩⟩
          refine c_row (B' := bFlood (xB (yE a)) t v2 v3) hA hC (by omega) hrow q1 (pushE_ok hA.2.1 ⟨hok, hsz.1, by show bnl (xB (yE a)) + 1 ≤ 4; omega⟩ hu) ?_ ?_
          · intro I1 F1 c1
            obtain ⟨y1, y2, y3, y4, y5⟩ := hC.2.2.1.1
            refine ⟨by rw [F1.g (c := 9) (z := 0) (by simp [Lrow])]; exact y1, by rw [F1.g (c := 0) (z := 0) (by simp [Lrow])]; exact y2, cR_fr y3 F1 (by simp [Lrow]), cR_fr y4 F1 (by simp [Lrow]), cRw_cong c1 (fun i _ => ⟨?_, rfl, rfl⟩)⟩
            show _ = nI (if i = bnl (xB (yE a)) then t else bgt (xB (yE a)) i)
            by_cases e : i = bnl (xB (yE a))
            · rw [if_pos e, if_pos e]
            · rw [if_neg e, if_neg e]
          · intro I1 hR1
            refine ref I1 hR1 (fun q => absurd ⟨q1, q2', q3'⟩ q) (fun _ => ?_)
            refine r_row hA hR1 (Or.inr (Or.inr ⟨rfl, rfl⟩)) hR1.2.1.1.2.2.2.2.1 q1 ?_
            intro I3 I4 rb F4 g4 e4 x4
            obtain ⟨y1, y2, y3, y4, y5⟩ := rb
            refine ⟨by rw [F4.g (c := 53) (z := 0) (by simp)]; exact y1, by rw [g4 29 (by omega)]; exact y2, ?_, ?_, ?_⟩
            · unfold rR; rw [g4 30 (by omega), F4.g (c := 62) (z := 0) (by simp)]; exact y3
            · unfold rR; rw [g4 31 (by omega), F4.g (c := 63) (z := 0) (by simp)]; exact y4
            · have := rR_put y5 e4 x4
              refine ⟨this.1, fun k hk => ?_⟩
              obtain ⟨w1, w2, w3⟩ := this.2 k hk
              refine ⟨w1.trans ?_, w2, w3⟩
              show (if k = bnl (xB (yE a)) then nI t else nI (bgt (xB (yE a)) k)) = nI (if k = bnl (xB (yE a)) then t else bgt (xB (yE a)) k)
              by_cases e : k = bnl (xB (yE a))
              · rw [if_pos e, if_pos e]
              · rw [if_neg e, if_neg e]
        · intro h
          rw [h.2.2] at q3
          exact q3 rfl
      · intro h
        rw [h.2.1] at q2
        exact q2 rfl
    · intro h
      rw [decide_eq_true h.1] at q
      exact q rfl
  · unfold f_X8_flood
    refine wp_bnd (wp_bindE _ (r_town hA hR0 v1) ?_)
    rw [b1]
    exact wp_pos rfl (r_fail1 hR 1)
end
