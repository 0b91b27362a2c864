/-! the reference's court: each case, all cases -/
def rQ (I : Mem) (C J T : Nat) (ns : Nat → Nat) (tw : Nat → Nat → Nat) (dy : Nat → Nat → Int32) (rd : Nat → Nat → Int32) (gg : Int32) (nw : Nat → Nat → Int32) (n : Nat) (w1 : Nat → Int32) (wt : Nat → Nat) (w3 : Nat → Int32) (tl : Nat → Nat → Bool) (sd : Nat → Nat → Int32) (stn : Nat → Nat → Nat) (gv : Nat → Nat → Bool) (mt : Nat → Nat → Int32) (df mu mc : Int32) : Prop :=
  rJ I J ns tw dy ∧ rN I T rd gg nw ∧ rR I 30 62 n w1 (fun k => nI (wt k)) w3 ∧ vR I C J tl sd stn gv ∧ (∀ a b, a < J → b < J → I 70 0 0 (5 * a + b) = nv (mt a b)) ∧
  I 8 0 0 41 = df ∧ I 8 0 0 42 = mu ∧ I 8 0 0 43 = mc ∧ I 50 0 0 5 = nI C
theorem rQ_fr {I I' : Mem} {S : List (Nat × Nat)} {C J T : Nat} {ns : Nat → Nat} {tw : Nat → Nat → Nat} {dy : Nat → Nat → Int32} {rd : Nat → Nat → Int32} {gg : Int32} {nw : Nat → Nat → Int32} {n : Nat} {w1 : Nat → Int32} {wt : Nat → Nat} {w3 : Nat → Int32} {tl : Nat → Nat → Bool} {sd : Nat → Nat → Int32} {stn : Nat → Nat → Nat} {gv : Nat → Nat → Bool} {mt : Nat → Nat → Int32} {df mu mc : Int32}
    (h : rQ I C J T ns tw dy rd gg nw n w1 wt w3 tl sd stn gv mt df mu mc) (F : Fr S I I') (hs' : ∀ c, c ∈ [8, 50, 55, 61, 62, 68, 69, 70, 71, 72, 73] → ¬ (c, 0) ∈ S) : rQ I' C J T ns tw dy rd gg nw n w1 wt w3 tl sd stn gv mt df mu mc := by
  unfold rQ rJ rN rR vR at *
  rw [F.g (hs' 8 (by decide)), F.g (hs' 50 (by decide)), F.g (hs' 55 (by decide)), F.g (hs' 61 (by decide)), F.g (hs' 62 (by decide)), F.g (hs' 68 (by decide)), F.g (hs' 69 (by decide)), F.g (hs' 70 (by decide)), F.g (hs' 71 (by decide)), F.g (hs' 72 (by decide)), F.g (hs' 73 (by decide))]
  exact h
section
variable {C J T : Nat} {ns : Nat → Nat} {tw : Nat → Nat → Nat} {dy : Nat → Nat → Int32} {rd : Nat → Nat → Int32} {gg : Int32} {nw : Nat → Nat → Int32} {n : Nat} {w1 : Nat → Int32} {wt : Nat → Nat} {w3 : Nat → Int32} {tl : Nat → Nat → Bool} {sd st : Nat → Nat → Int32} {stn : Nat → Nat → Nat} {gv : Nat → Nat → Bool} {mt : Nat → Nat → Int32} {df mu mc : Int32}
def vdr (nw : Nat → Nat → Int32) (J : Nat) (ns : Nat → Nat) (tw : Nat → Nat → Nat) (dy : Nat → Nat → Int32) (tl : Nat → Nat → Bool) (sd : Nat → Nat → Int32) (stn : Nat → Nat → Nat) (n : Nat) (w1 : Nat → Int32) (wt : Nat → Nat) (w3 : Nat → Int32) (df mu mc : Int32) (c j : Nat) : Bool :=
  tl c j && (!bt df j && ((decide (nI c = mc) && bt mu j) || rcV nw J ns tw dy tl sd stn n w1 wt w3 c j))
/-- the pure side conditions of a court -/
def okQ (C J T : Nat) (ns : Nat → Nat) (tw : Nat → Nat → Nat) (dy : Nat → Nat → Int32) (n : Nat) (wt : Nat → Nat) (w3 : Nat → Int32) (tl : Nat → Nat → Bool) (sd st : Nat → Nat → Int32) (stn : Nat → Nat → Nat) : Prop :=
  C ≤ 6 ∧ Days dy J ns ∧ twT J ns tw T ∧ n ≤ 5 ∧ wdW n T wt w3 ∧ sdW C J T tl sd st stn
def more (mu mc : Int32) (c : Nat) : Int32 := if nI c = mc then mu else 0
theorem r_jc_2 (ho : okQ C J T ns tw dy n wt w3 tl sd st stn) {c : Nat} (hc : c < C) : ∀ m fu k I, k + m = J → m < fu → rQ I C J T ns tw dy rd gg nw n w1 wt w3 tl sd stn gv mt df mu mc →
    (∀ j, j < k → I 74 0 0 (5 * c + j) = bI (vdr nw J ns tw dy tl sd stn n w1 wt w3 df mu mc c j)) →
    wp (f_X8_judgeCase_2 fu I (nI c) (nI k)) (fun I' => Fr [(74, 0), (75, 0), (76, 0)] I I' ∧ (∀ c' j, c' ≠ c → j < 5 → I' 74 0 0 (5 * c' + j) = I 74 0 0 (5 * c' + j) ∧ I' 75 0 0 c' = I 75 0 0 c' ∧ I' 76 0 0 c' = I 76 0 0 c') ∧
      (∀ j, j < J → I' 74 0 0 (5 * c + j) = bI (vdr nw J ns tw dy tl sd stn n w1 wt w3 df mu mc c j)) ∧
      jst I' c (trv J tl sd st gv (rcV nw J ns tw dy tl sd stn n w1 wt w3) mt (more mu mc c) df c)) := by
  obtain ⟨hC6, hd, hT, hn5, hw, hs⟩ := ho
  intro m
  induction m with
  | zero =>
    intro fu k I hk hf h hh
    obtain ⟨g, rfl⟩ := Nat.exists_eq_succ_of_ne_zero (by omega : fu ≠ 0)
    have ⟨hJ', hN, hR, hv, h70, h41, h42, h43, hC⟩ := h
    have hJ5 := hJ'.2.1
    have hk' : k = J := by omega
    subst hk'
    unfold f_X8_judgeCase_2
    rw [hJ'.1]
    refine wp_pos (by rw [nI_leI (by omega) (by omega)]; omega) (wp_gd (inb_n (by omega)) (wp_bnd (wp_bnd ?_)))
    rw [nI_clamp (by omega)]
    have F : Fr [(75, 0), (76, 0)] I (upd4 (upd4 I 75 0 0 c 100000) 76 0 0 c 0) := (Fr.up (by simp)).tr (Fr.up (by simp))
    have hb : jB (upd4 (upd4 I 75 0 0 c 100000) 76 0 0 c 0) C k c tl sd stn gv (vdr nw k ns tw dy tl sd stn n w1 wt w3 df mu mc c) mt := by
      refine jB_fr (I := I) ⟨hJ'.1, hJ5, hc, hC6, hv, hh, h70⟩ F (by simp)
    refine wp_mono (r_jc_59 hs k FU 0 _ (0, -1) (by omega) (by unfold FU; omega) hb ⟨u_at, ?_⟩ (Or.inl rfl)) ?_
    · rw [u_c (show (75 : Nat) ≠ 76 by decide), u_at]; rfl
    · rintro I' ⟨⟨F', f2⟩, j'⟩
      have e74 : I' 74 0 = I 74 0 := (F'.g (by simp)).trans (F.g (by simp))
      refine ⟨(F.tr F').sub (by simp), ?_, ?_, ?_⟩
      · intro c' j hc' hj
        obtain ⟨f3, f4⟩ := f2 c' hc'
        rw [e74, f3, f4, u_c (show (75 : Nat) ≠ 76 by decide), u_if, if_neg (fun q => hc' q.2), u_if, if_neg (fun q => hc' q.2), u_c (show (76 : Nat) ≠ 75 by decide)]
        exact ⟨rfl, rfl, rfl⟩
      · intro j hj; rw [e74]; exact hh j hj
      · have : trv k tl sd st gv (rcV nw k ns tw dy tl sd stn n w1 wt w3) mt (more mu mc c) df c = tr1 (ok3 (fun j => (tl c j && gv c j) && !vdr nw k ns tw dy tl sd stn n w1 wt w3 df mu mc c j) (st c) (sd c) mt) (d3 (sd c)) 0 k (0, -1) := by
          unfold trv tri
          refine tr1_cong (J := k) ?_ k 0 _ (by omega)
          intro x y w h1 h2 h3
          have key : ∀ j, gjv tl gv (rcV nw k ns tw dy tl sd stn n w1 wt w3) (more mu mc c) df c j = ((tl c j && gv c j) && !vdr nw k ns tw dy tl sd stn n w1 wt w3 df mu mc c j) := by
            intro j
            unfold gjv vdr more
            by_cases e : nI c = mc
            · rw [if_pos e, decide_eq_true e]
              cases tl c j <;> cases gv c j <;> cases bt df j <;> cases bt mu j <;> simp
            · rw [if_neg e, decide_eq_false e, b_0]
              cases tl c j <;> cases gv c j <;> cases bt df j <;> simp
          unfold ok3
          simp only [key]
        rw [this]; exact j'
  | succ m ih =>
    intro fu k I hk hf h hh
    obtain ⟨g, rfl⟩ := Nat.exists_eq_succ_of_ne_zero (by omega : fu ≠ 0)
    have ⟨hJ', hN, hR, hv, h70, h41, h42, h43, hC⟩ := h
    have hJ5 := hJ'.2.1
    have ev : f_X8_isVoided I (nI c) (nI k) = some (bI (vdr nw J ns tw dy tl sd stn n w1 wt w3 df mu mc c k)) := r_void h41 h42 h43 hJ' hd hT hN hR hn5 hw hv hs hC6 hc (by omega : k < J)
    unfold f_X8_judgeCase_2
    rw [hJ'.1, n_5, idx_n]
    refine wp_neg (by rw [nI_leI (by omega) (by omega)]; omega) ?_
    refine wp_bindE _ ev ?_
    have nxt : wp (f_X8_judgeCase_2 g (upd4 I 74 0 0 (5 * c + k) (bI (vdr nw J ns tw dy tl sd stn n w1 wt w3 df mu mc c k))) (nI c) (nI k + 1)) (fun I' => Fr [(74, 0), (75, 0), (76, 0)] I I' ∧ (∀ c' j, c' ≠ c → j < 5 → I' 74 0 0 (5 * c' + j) = I 74 0 0 (5 * c' + j) ∧ I' 75 0 0 c' = I 75 0 0 c' ∧ I' 76 0 0 c' = I 76 0 0 c') ∧
      (∀ j, j < J → I' 74 0 0 (5 * c + j) = bI (vdr nw J ns tw dy tl sd stn n w1 wt w3 df mu mc c j)) ∧
      jst I' c (trv J tl sd st gv (rcV nw J ns tw dy tl sd stn n w1 wt w3) mt (more mu mc c) df c)) := by
      rw [nI_1]
      have F : Fr [(74, 0), (75, 0), (76, 0)] I (upd4 I 74 0 0 (5 * c + k) (bI (vdr nw J ns tw dy tl sd stn n w1 wt w3 df mu mc c k))) := Fr.up (by simp)
      refine wp_mono (ih g (k + 1) _ (by omega) (by omega) (rQ_fr h F (by simp)) ?_) ?_
      · intro j hj
        rw [u_if]
        by_cases e : j = k
        · rw [if_pos ⟨rfl, by omega⟩, e]
        · rw [if_neg (fun q => e (by omega))]; exact hh j (by omega)
      · rintro I' ⟨F', a, b⟩
        refine ⟨F.tr F', fun c' j hc' hj => ?_, b⟩
        obtain ⟨a1, a2, a3⟩ := a c' j hc' hj
        rw [a1, a2, a3, u_if, if_neg (fun q => hc' (by omega)), u_c (show (75 : Nat) ≠ 74 by decide), u_c (show (76 : Nat) ≠ 74 by decide)]
        exact ⟨rfl, rfl, rfl⟩
    refine wp_ite (fun q => wp_gd (inb_n (by omega)) (wp_bnd ?_)) (fun q => wp_gd (inb_n (by omega)) (wp_bnd ?_))
    · rw [nI_clamp (by omega)]
      rw [bI_0.mp q] at nxt; exact nxt
    · rw [nI_clamp (by omega)]
      have : vdr nw J ns tw dy tl sd stn n w1 wt w3 df mu mc c k = true := by
        cases e : vdr nw J ns tw dy tl sd stn n w1 wt w3 df mu mc c k
        · exact absurd (bI_0.mpr e) q
        · rfl
      rw [this] at nxt; exact nxt
theorem r_jc (ho : okQ C J T ns tw dy n wt w3 tl sd st stn) {c : Nat} (hc : c < C) {I : Mem} (h : rQ I C J T ns tw dy rd gg nw n w1 wt w3 tl sd stn gv mt df mu mc) :
    wp (f_X8_judgeCase I (nI c)) (fun I' => Fr [(74, 0), (75, 0), (76, 0)] I I' ∧ (∀ c' j, c' ≠ c → j < 5 → I' 74 0 0 (5 * c' + j) = I 74 0 0 (5 * c' + j) ∧ I' 75 0 0 c' = I 75 0 0 c' ∧ I' 76 0 0 c' = I 76 0 0 c') ∧
      (∀ j, j < J → I' 74 0 0 (5 * c + j) = bI (vdr nw J ns tw dy tl sd stn n w1 wt w3 df mu mc c j)) ∧
      jst I' c (trv J tl sd st gv (rcV nw J ns tw dy tl sd stn n w1 wt w3) mt (more mu mc c) df c)) := by
  have hJ5 := h.1.2.1
  exact r_jc_2 ho hc J FU 0 I (by omega) (by unfold FU; omega) h (fun j hj => absurd hj (Nat.not_lt_zero j))
/-- a day of three is at most 114 -/
theorem trv_b {more' df : Int32} {rc : Nat → Nat → Bool} (hs : sdW C J T tl sd st stn) {c : Nat} (hc : c < C) : (trv J tl sd st gv rc mt more' df c).1 = 0 ∧ (trv J tl sd st gv rc mt more' df c).2 = -1 ∨ ((trv J tl sd st gv rc mt more' df c).1 ≠ 0 ∧ 0 ≤ ((trv J tl sd st gv rc mt more' df c).2).toInt ∧ ((trv J tl sd st gv rc mt more' df c).2).toInt ≤ 114) ∨ 5 < J := by
  by_cases hJ5 : J ≤ 5
  · rcases tri_inv J (gjv tl gv rc more' df c) (st c) (sd c) mt with e | ⟨x, y, w, h1, h2, h3, h5, e⟩
    · have e' : trv J tl sd st gv rc mt more' df c = (0, -1) := e
      rw [e']; exact Or.inl ⟨rfl, rfl⟩
    · have e' : trv J tl sd st gv rc mt more' df c = (b3 x y w, d3 (sd c) x y w) := e
      rw [e']
      unfold ok3 gjv at h5
      simp only [Bool.and_eq_true] at h5
      have t1 := (hs c hc x (by omega)).1 h5.1.1.1.1
      have t2 := (hs c hc y (by omega)).1 h5.1.2.1.1.1
      have t3 := (hs c hc w (by omega)).1 h5.1.2.2.1.1
      refine Or.inr (Or.inl ⟨b3_ne (by omega) (by omega) (by omega), ?_, d3_b t1.2.1 t2.2.1 t3.2.1⟩)
      have := (jmax_p (sd c x) (jmax (sd c y) (sd c w))).1
      rw [fa_le] at this
      show 0 ≤ (jmax (sd c x) (jmax (sd c y) (sd c w))).toInt
      have := t1.1; omega
  · exact Or.inr (Or.inr (by omega))
theorem r_ja_4 (ho : okQ C J T ns tw dy n wt w3 tl sd st stn) : ∀ m fu k I a, k + m = C → m < fu → rQ I C J T ns tw dy rd gg nw n w1 wt w3 tl sd stn gv mt df mu mc →
    (∀ c, c < k → (∀ j, j < J → I 74 0 0 (5 * c + j) = bI (vdr nw J ns tw dy tl sd stn n w1 wt w3 df mu mc c j)) ∧ jst I c (trv J tl sd st gv (rcV nw J ns tw dy tl sd stn n w1 wt w3) mt (more mu mc c) df c)) →
    wp (f_X8_judgeAll_4 fu I (nI a) (nI k)) (fun r => Fr [(74, 0), (75, 0), (76, 0)] I r.2 ∧
      r.1 = nI (a + cn (fun c => !decide ((trv J tl sd st gv (rcV nw J ns tw dy tl sd stn n w1 wt w3) mt (more mu mc c) df c).1 = 0)) k m) ∧
      ∀ c, c < C → (∀ j, j < J → r.2 74 0 0 (5 * c + j) = bI (vdr nw J ns tw dy tl sd stn n w1 wt w3 df mu mc c j)) ∧ jst r.2 c (trv J tl sd st gv (rcV nw J ns tw dy tl sd stn n w1 wt w3) mt (more mu mc c) df c)) := by
  have hC6 := ho.1
  intro m
  induction m with
  | zero =>
    intro fu k I a hk hf h hh
    obtain ⟨g, rfl⟩ := Nat.exists_eq_succ_of_ne_zero (by omega : fu ≠ 0)
    have ⟨hJ', hN, hR, hv, h70, h41, h42, h43, hC⟩ := h
    have hk' : k = C := by omega
    subst hk'
    unfold f_X8_judgeAll_4
    rw [hC]
    exact wp_pos (by rw [nI_leI (by omega) (by omega)]; omega) (wp_some ⟨Fr.rfl, by rw [cn, Nat.add_zero], hh⟩)
  | succ m ih =>
    intro fu k I a hk hf h hh
    obtain ⟨g, rfl⟩ := Nat.exists_eq_succ_of_ne_zero (by omega : fu ≠ 0)
    have ⟨hJ', hN, hR, hv, h70, h41, h42, h43, hC⟩ := h
    have hJ5 := hJ'.2.1
    unfold f_X8_judgeAll_4
    rw [hC]
    refine wp_neg (by rw [nI_leI (by omega) (by omega)]; omega) ?_
    refine wp_bind (r_jc ho (by omega : k < C) h) ?_
    rintro I2 ⟨F2, a2, b2, j2⟩
    refine wp_gd (inb_n (by omega)) ?_
    rw [nI_clamp (by omega), j2.2]
    have hh2 : ∀ c, c < k + 1 → (∀ j, j < J → I2 74 0 0 (5 * c + j) = bI (vdr nw J ns tw dy tl sd stn n w1 wt w3 df mu mc c j)) ∧ jst I2 c (trv J tl sd st gv (rcV nw J ns tw dy tl sd stn n w1 wt w3) mt (more mu mc c) df c) := by
      intro c hc
      by_cases e : c = k
      · rw [e]; exact ⟨b2, j2⟩
      · obtain ⟨p1, p2⟩ := hh c (by omega)
        refine ⟨fun j hj => ?_, ?_⟩
        · rw [(a2 c j e (by omega)).1]; exact p1 j hj
        · unfold jst
          rw [(a2 c 0 e (by omega)).2.1, (a2 c 0 e (by omega)).2.2]; exact p2
    have key : ((100000 : Int32) ≤ (if (trv J tl sd st gv (rcV nw J ns tw dy tl sd stn n w1 wt w3) mt (more mu mc k) df k).1 = 0 then 100000 else (trv J tl sd st gv (rcV nw J ns tw dy tl sd stn n w1 wt w3) mt (more mu mc k) df k).2)) ↔ (trv J tl sd st gv (rcV nw J ns tw dy tl sd stn n w1 wt w3) mt (more mu mc k) df k).1 = 0 := by
      rcases trv_b (gv := gv) (mt := mt) (more' := more mu mc k) (df := df) (rc := rcV nw J ns tw dy tl sd stn n w1 wt w3) ho.2.2.2.2.2 (by omega : k < C) with e | e | e
      · rw [if_pos e.1]; exact ⟨fun _ => e.1, fun _ => by decide⟩
      · rw [if_neg e.1]
        refine ⟨fun q => ?_, fun q => absurd q e.1⟩
        exfalso
        rw [n_1e5, fa_le, nI_toInt (by omega)] at q; omega
      · omega
    rw [cn]
    refine wp_ite (fun q => wp_bnd ?_) (fun q => wp_bnd ?_)
    · have q' := key.mp q
      rw [show nI a + (0 : Int32) = nI a from nI_add a 0, nI_1]
      refine wp_mono (ih g (k + 1) I2 a (by omega) (by omega) (rQ_fr h F2 (by simp)) hh2) ?_
      rintro r ⟨r1, r2, r3⟩
      refine ⟨F2.tr r1, ?_, r3⟩
      rw [r2, q']; simp
    · have q' : ¬ (trv J tl sd st gv (rcV nw J ns tw dy tl sd stn n w1 wt w3) mt (more mu mc k) df k).1 = 0 := fun e => q (key.mpr e)
      rw [nI_1, nI_1]
      refine wp_mono (ih g (k + 1) I2 (a + 1) (by omega) (by omega) (rQ_fr h F2 (by simp)) hh2) ?_
      rintro r ⟨r1, r2, r3⟩
      refine ⟨F2.tr r1, ?_, r3⟩
      rw [r2]; simp [q', Nat.add_assoc]
theorem r_ja (ho : okQ C J T ns tw dy n wt w3 tl sd st stn) {I : Mem} (h : rQ I C J T ns tw dy rd gg nw n w1 wt w3 tl sd stn gv mt df mu mc) :
    wp (f_X8_judgeAll I) (fun r => Fr [(74, 0), (75, 0), (76, 0)] I r.2 ∧
      r.1 = nI (cn (fun c => !decide ((trv J tl sd st gv (rcV nw J ns tw dy tl sd stn n w1 wt w3) mt (more mu mc c) df c).1 = 0)) 0 C) ∧
      ∀ c, c < C → (∀ j, j < J → r.2 74 0 0 (5 * c + j) = bI (vdr nw J ns tw dy tl sd stn n w1 wt w3 df mu mc c j)) ∧ jst r.2 c (trv J tl sd st gv (rcV nw J ns tw dy tl sd stn n w1 wt w3) mt (more mu mc c) df c)) := by
  have hC6 := ho.1
  refine wp_mono (r_ja_4 ho C FU 0 I 0 (by omega) (by unfold FU; omega) h (fun c hc => absurd hc (Nat.not_lt_zero c))) ?_
  rintro r ⟨r1, r2, r3⟩
  rw [Nat.zero_add] at r2
  exact ⟨r1, r2, r3⟩
end
