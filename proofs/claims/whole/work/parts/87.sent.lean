/-! pairs of calls: sent -/
section
variable {I : Mem} {P : PMem} {l : Nat} {a : Abs} {O : Nat → Int64} {D : Bool} {n : Nat}
theorem rc_tl {L : Land} {B : Ben} {tw : Nat → Nat → Nat} {dy : Nat → Nat → Int32} (hL : LOK L) (hS : SOK L tw dy) {c j : Nat} (hc : c < lC L) (hj : j < lJ L) (ht : qtl L B tw dy c j = false) : qrc L B tw dy c j = false := by
  have e := ((q_sdW (B := B) hS c hc j hj).2 ht).1
  have lim0 : lim (dy j) (lns L j) (qsd L B tw dy c j) = 0 := by
    have hn1 := (hL.2.2.2.1 j hj).1
    unfold lim
    rw [show lns L j = (lns L j - 1) + 1 by omega, ff, if_pos]
    have h0 := (hS.1.1 j 0 hj (by omega)).1
    rw [e]
    refine decide_eq_true ?_
    rw [fa_lt, m1_toInt]; omega
  unfold qrc rcV cx
  simp only [lim0, ex, Bool.and_false]
  apply Bool.eq_false_iff.mpr
  intro q
  simp only [Bool.or_eq_true, ex_iff] at q
  rcases q with ⟨_, _, _, q⟩ | ⟨_, _, _, q⟩ <;> cases q
theorem vd_eq {L : Land} {B : Ben} {tw : Nat → Nat → Nat} {dy : Nat → Nat → Int32} (hL : LOK L) (hS : SOK L tw dy) {c j : Nat} (hc : c < lC L) (hj : j < lJ L) (df : Int32) : qvd L B tw dy df 0 (-1) c j = (qrc L B tw dy c j && !bt df j) := by
  unfold qvd vdr
  rw [b_0, Bool.and_false, Bool.false_or]
  cases ht : qtl L B tw dy c j
  · rw [rc_tl hL hS hc hj ht]; rfl
  · show (_ && (_ && qrc L B tw dy c j)) = _
    rw [Bool.true_and, Bool.and_comm]
theorem r_seen_2 {B : Ben} (hA : AOK a) (hB : BOK (yL a) B) {tw : Nat → Nat → Nat} {dy : Nat → Nat → Int32} {mt : Nat → Nat → Int32} {df : Int32} (hS : SOK (yL a) tw dy) {I3 : Mem} (rq : qRQ I3 (yL a) B tw dy mt df 0 (-1)) (hs : rSn I3 77 34 (yE a)) : ∀ m fu k, k + m = xsn (yE a) → m < fu →
    f_X8_isAsSeen_2 I3 fu (nI k) = some (bI (!ex (fun k => (qrc (yL a) B tw dy (xs1 (yE a) k) (xs2 (yE a) k) && !bt df (xs2 (yE a) k)) != xs3 (yE a) k) k m)) := by
  have h8 := hA.2.1.2.2.2.1
  have hb := hA.2.1.2.2.2.2
  have ho := q_okQ hA.1 hB hS
  obtain ⟨q1, q2, q3, q4, q5, q6, q7, q8, q9⟩ := rq
  intro m
  induction m with
  | zero =>
    intro fu k hk hf
    obtain ⟨g, rfl⟩ := Nat.exists_eq_succ_of_ne_zero (by omega : fu ≠ 0)
    unfold f_X8_isAsSeen_2
    rw [hs.1, if_pos (by rw [nI_leI (by omega) (by omega)]; omega)]; rfl
  | succ m ih =>
    intro fu k hk hf
    obtain ⟨g, rfl⟩ := Nat.exists_eq_succ_of_ne_zero (by omega : fu ≠ 0)
    obtain ⟨x1, x2, x3⟩ := hs.2 k (by omega)
    obtain ⟨y1, y2⟩ := hb k (by omega)
    have ev : f_X8_isVoided I3 (nI (xs1 (yE a) k)) (nI (xs2 (yE a) k)) = some (bI (qvd (yL a) B tw dy df 0 (-1) (xs1 (yE a) k) (xs2 (yE a) k))) := r_void q6 q7 q8 q1 ho.2.1 ho.2.2.1 q2 q3 ho.2.2.2.1 ho.2.2.2.2.1 q4 ho.2.2.2.2.2 ho.1 y1 y2
    rw [vd_eq hA.1 hS y1 y2] at ev
    have e34 : ∀ b : Bool, f_X8_isAsSeen_34 (f_X8_isAsSeen_2 I3 g) I3 (nI k) (bI b) = if b = xs3 (yE a) k then f_X8_isAsSeen_2 I3 g (nI (k + 1)) else some 0 := by
      intro b
      unfold f_X8_isAsSeen_34
      rw [gd_t (inb_n (by omega)), nI_clamp (by omega), x3, nI_1]
      simp only [bI_inj]
    unfold f_X8_isAsSeen_2
    rw [hs.1, if_neg (by rw [nI_leI (by omega) (by omega)]; omega), gd_t (inb_n (by omega)), nI_clamp (by omega), x1, x2, ev, Option.bind_some]
    have ih' := ih g (k + 1) (by omega) (by omega)
    have e34a := e34 false
    have e34b := e34 true
    rw [ih'] at e34a e34b
    show (if _ then f_X8_isAsSeen_34 (f_X8_isAsSeen_2 I3 g) I3 (nI k) (bI false) else f_X8_isAsSeen_34 (f_X8_isAsSeen_2 I3 g) I3 (nI k) (bI true)) = _
    rw [e34a, e34b, ex]
    cases (qrc (yL a) B tw dy (xs1 (yE a) k) (xs2 (yE a) k) && !bt df (xs2 (yE a) k)) <;> cases xs3 (yE a) k <;> rfl
theorem r_seen {B : Ben} (hA : AOK a) (hB : BOK (yL a) B) {tw : Nat → Nat → Nat} {dy : Nat → Nat → Int32} {mt : Nat → Nat → Int32} {df : Int32} (hS : SOK (yL a) tw dy) {I3 : Mem} (rq : qRQ I3 (yL a) B tw dy mt df 0 (-1)) (hs : rSn I3 77 34 (yE a)) :
    f_X8_isAsSeen I3 = some (bI (!ex (fun k => (qrc (yL a) B tw dy (xs1 (yE a) k) (xs2 (yE a) k) && !bt df (xs2 (yE a) k)) != xs3 (yE a) k) 0 (xsn (yE a)))) := by
  have h8 := hA.2.1.2.2.2.1
  exact r_seen_2 hA hB hS rq hs (xsn (yE a)) FU 0 (by omega) (by unfold FU; omega)
def spq (a : Abs) (c k : Nat) : Bool := !ex (asS (qrc (yL a) (xB (yE a)) (tw0 (yL a)) (dy0 (yL a) (xB (yE a)))) (qdf (yL a)) (bs (fun j => rcW (qH (yL a) (xB (yE a)) (tw0 (yL a)) (dy0 (yL a) (xB (yE a)))) (lnw (yL a)) (lns (yL a)) (tw0 (yL a)) (dy0 (yL a) (xB (yE a))) c j (k % lT (yL a)) (nI (k / lT (yL a)))) 0 (lJ (yL a)) 0) c (xs1 (yE a)) (xs2 (yE a)) (xs3 (yE a))) 0 (xsn (yE a))
def sst (p : Nat → Bool) (T k : Nat) (s : Nat × Int32) : Nat × Int32 := if p k = true then (s.1 + 1, if s.2 = -1 then nI (100 * (k / T) + k % T) else s.2) else s
def sfl (p : Nat → Bool) (T : Nat) : Nat → Nat → Nat × Int32 → Nat × Int32
  | _, 0, s => s
  | k, m + 1, s => sfl p T (k + 1) m (sst p T k s)
theorem sfl_app (p : Nat → Bool) (T : Nat) : ∀ m k m' s, sfl p T k (m + m') s = sfl p T (k + m) m' (sfl p T k m s)
  | 0, k, m', s => by rw [Nat.zero_add]; rfl
  | m + 1, k, m', s => by
    rw [show m + 1 + m' = (m + m') + 1 by omega, sfl, sfl_app p T m (k + 1), sfl, show k + 1 + m = k + (m + 1) by omega]
theorem n_100 : (100 : Int32) = nI 100 := rfl
theorem q_seen (hA : AOK a) {I1 : Mem} {P1 : PMem} (hC1 : GC I1 P1 l a) (hst : stl I1 P1 0 l (yL a) (xB (yE a))) {c : Nat} (hc : c < lC (yL a)) (more' : Int32) :
    f_X1_isAllAsSeen I1 P1 0 (nI c) more' = some (bI (!ex (asS (qrc (yL a) (xB (yE a)) (tw0 (yL a)) (dy0 (yL a) (xB (yE a)))) (qdf (yL a)) more' c (xs1 (yE a)) (xs2 (yE a)) (xs3 (yE a))) 0 (xsn (yE a)))) :=
  c_seen hst.2.2.2.2.1 hst.2.1 hA.1.2.1 hA.1.2.2.1 hc hst.2.2.1 hC1.2.2.1.2.2.1 hA.2.1.2.2.2.2
theorem c_sent_54 (hA : AOK a) {I1 : Mem} {P1 : PMem} (hC1 : GC I1 P1 l a) (hst : stl I1 P1 0 l (yL a) (xB (yE a))) {c : Nat} (hc : c < lC (yL a)) {v2 : Int32} {d : Nat} (hd : d ≤ 60) {k44 : Mem → PMem → Int32 → Int32 → Int32 → Int32 → Int32 → Option ((Int32 × Mem × PMem) ⊕ Nat)} : ∀ m fu t s, t + m = lT (yL a) → m < fu →
    f_X7_sent_54 k44 fu I1 P1 (nI c) v2 (nI s.1) s.2 (nI d) (nI t) = k44 I1 P1 (nI c) v2 (nI (sfl (spq a c) (lT (yL a)) (lT (yL a) * d + t) m s).1) (sfl (spq a c) (lT (yL a)) (lT (yL a) * d + t) m s).2 (nI (d + 1)) := by
  have hC6 := hA.1.2.2.1
  have hT9 := hA.1.1
  have hC0 := hC1
  obtain ⟨⟨p1, p2, p3⟩, c1, _⟩ := hC1
  intro m
  induction m with
  | zero =>
    intro fu t s hk hf
    obtain ⟨g, rfl⟩ := Nat.exists_eq_succ_of_ne_zero (by omega : fu ≠ 0)
    unfold f_X7_sent_54
    rw [p1, gd_t (dlt p2), c1.2.1, if_pos (by rw [nI_leI (by omega) (by omega)]; omega), nI_1]; rfl
  | succ m ih =>
    intro fu t s hk hf
    obtain ⟨g, rfl⟩ := Nat.exists_eq_succ_of_ne_zero (by omega : fu ≠ 0)
    have ht : t < lT (yL a) := by omega
    have em : (lT (yL a) * d + t) % lT (yL a) = t := by rw [Nat.mul_add_mod]; exact Nat.mod_eq_of_lt ht
    have ed : (lT (yL a) * d + t) / lT (yL a) = d := by rw [Nat.mul_add_div (by omega), Nat.div_eq_of_lt ht, Nat.add_zero]
    have ep : spq a c (lT (yL a) * d + t) = !ex (asS (qrc (yL a) (xB (yE a)) (tw0 (yL a)) (dy0 (yL a) (xB (yE a)))) (qdf (yL a)) (bs (fun j => rcW (qH (yL a) (xB (yE a)) (tw0 (yL a)) (dy0 (yL a) (xB (yE a)))) (lnw (yL a)) (lns (yL a)) (tw0 (yL a)) (dy0 (yL a) (xB (yE a))) c j t (nI d)) 0 (lJ (yL a)) 0) c (xs1 (yE a)) (xs2 (yE a)) (xs3 (yE a))) 0 (xsn (yE a)) := by
      unfold spq; rw [em, ed]
    unfold f_X7_sent_54
    rw [p1, gd_t (dlt p2), c1.2.1, if_neg (by rw [nI_leI (by omega) (by omega)]; omega), q_word hA hC0 hst hc ht, Option.bind_some, q_seen hA hC0 hst hc, Option.bind_some, ← ep, n_100, idx_n, bnd_e, nI_1 t, nI_1 s.1, sfl, sst, em, ed]
    have i0 := ih g (t + 1) s (by omega) (by omega)
    have i1 := ih g (t + 1) (s.1 + 1, nI (100 * d + t)) (by omega) (by omega)
    have i2 := ih g (t + 1) (s.1 + 1, s.2) (by omega) (by omega)
    cases spq a c (lT (yL a) * d + t)
    · exact i0
    · rw [if_neg (by decide), if_pos rfl]
      by_cases e : s.2 = -1
      · rw [if_pos e, if_pos e]; exact i1
      · rw [if_neg e, if_neg e]; exact i2
theorem c_sent_44 (hA : AOK a) {I1 : Mem} {P1 : PMem} (hC1 : GC I1 P1 l a) (hst : stl I1 P1 0 l (yL a) (xB (yE a))) {c : Nat} (hc : c < lC (yL a)) {v2 : Int32} : ∀ m fu d s, d + m = 61 → m < fu →
    f_X7_sent_44 fu I1 P1 (nI c) v2 (nI s.1) s.2 (nI d) = some (Sum.inl (if v2 = 0 then nI (sfl (spq a c) (lT (yL a)) (lT (yL a) * d) (lT (yL a) * m) s).1 else (sfl (spq a c) (lT (yL a)) (lT (yL a) * d) (lT (yL a) * m) s).2, I1, P1)) := by
  have hT9 := hA.1.1
  intro m
  induction m with
  | zero =>
    intro fu d s hk hf
    obtain ⟨g, rfl⟩ := Nat.exists_eq_succ_of_ne_zero (by omega : fu ≠ 0)
    unfold f_X7_sent_44
    rw [show (60 : Int32) = nI 60 from rfl, if_pos (by rw [nI_ltI (by omega) (by omega)]; omega), Nat.mul_zero, sfl]
    by_cases e : v2 = 0
    · rw [if_pos e, if_pos e]
    · rw [if_neg e, if_neg e]
  | succ m ih =>
    intro fu d s hk hf
    obtain ⟨g, rfl⟩ := Nat.exists_eq_succ_of_ne_zero (by omega : fu ≠ 0)
    have e := c_sent_54 hA hC1 hst hc (v2 := v2) (by omega : d ≤ 60) (k44 := f_X7_sent_44 g) (lT (yL a)) FU 0 s (by omega) (by unfold FU; omega)
    rw [Nat.add_zero] at e
    unfold f_X7_sent_44
    rw [show (60 : Int32) = nI 60 from rfl, if_neg (by rw [nI_ltI (by omega) (by omega)]; omega)]
    refine e.trans ?_
    rw [ih g (d + 1) _ (by omega) (by omega), show lT (yL a) * (m + 1) = lT (yL a) + lT (yL a) * m by rw [Nat.mul_succ, Nat.add_comm], sfl_app, Nat.mul_succ (lT (yL a)) d]
theorem r_sent_72 (hA : AOK a) {c : Nat} (hc : c < lC (yL a)) {v2 : Int32} : ∀ m fu k I3 s, k + m = lT (yL a) * 61 → m < fu → xW a I3 → I3 50 0 0 0 = nI (lT (yL a)) → rSn I3 77 34 (yE a) →
    wp (f_X8_sent_72 fu I3 (nI c) v2 (nI s.1) s.2 (nI k)) (fun w => w.1 = (if v2 = 0 then nI (sfl (spq a c) (lT (yL a)) k m s).1 else (sfl (spq a c) (lT (yL a)) k m s).2) ∧ T9 (bn (xB (yE a))) I3 w.2 ∧ w.2 8 0 0 30 = nI (bn (xB (yE a)))) := by
  have hC6 := hA.1.2.2.1
  have hT9 := hA.1.1
  have hJ5 := hA.1.2.1
  have S := B_SOK hA.1 (A_BOK hA).1 (fun _ => false)
  have h4 : bn (xB (yE a)) ≤ 4 := (hA.2.1.1 _ (Nat.le_refl _)).2.1
  intro m
  induction m with
  | zero =>
    intro fu k I3 s hk hf hx h50 hs
    obtain ⟨g, rfl⟩ := Nat.exists_eq_succ_of_ne_zero (by omega : fu ≠ 0)
    obtain ⟨t1, t2⟩ := T9_end (xW_30 hx)
    unfold f_X8_sent_72
    rw [h50, n_61, pk_mul]
    refine wp_pos (by rw [nI_leI (by omega) (by omega)]; omega) (wp_bnd ?_)
    exact wp_ite (fun q => wp_some ⟨by rw [if_pos q]; rfl, t1, t2⟩) (fun q => wp_some ⟨by rw [if_neg q]; rfl, t1, t2⟩)
  | succ m ih =>
    intro fu k I3 s hk hf hx h50 hs
    obtain ⟨g, rfl⟩ := Nat.exists_eq_succ_of_ne_zero (by omega : fu ≠ 0)
    have hT0 : 0 < lT (yL a) := by
      by_cases e : lT (yL a) = 0
      · rw [e] at hk; omega
      · omega
    obtain ⟨dv, rm⟩ := divT (k := k) (T := lT (yL a)) (by omega) hT0 (by omega)
    have hne : (nI (lT (yL a)) != 0) = true := by simp [nI_ne0 hT0 (by omega)]
    unfold f_X8_sent_72
    rw [h50, n_61, pk_mul]
    refine wp_neg (by rw [nI_leI (by omega) (by omega)]; omega) (wp_gd hne ?_)
    rw [dv, rm]
    refine wp_bind (xW_put hA hx (nI c) (k % lT (yL a)) (nI (k / lT (yL a)))) ?_
    rintro I4 ⟨rq4, t4, e8⟩
    have hd60 : k / lT (yL a) ≤ 60 := by
      have : k / lT (yL a) < 61 := Nat.div_lt_of_lt_mul (by omega)
      omega
    have hq : ∀ x, x ≤ 60 → 0 ≤ (nI x).toInt ∧ (nI x).toInt ≤ 114 := fun x hx => by rw [nI_toInt (by omega)]; omega
    have hB4 := bWord_ok (c := nI c) (A_BOK hA) h4 (Nat.mod_lt k hT0) (d := nI (k / lT (yL a))) (hq _ hd60)
    have hs4 : rSn I4 77 34 (yE a) := by
      unfold rSn
      rw [e8, t4.1.g (c := 77) (z := 0) (by simp [LT9, LT8, LT]), t4.1.g (c := 77 + 1) (z := 0) (by simp [LT9, LT8, LT]), t4.1.g (c := 77 + 2) (z := 0) (by simp [LT9, LT8, LT])]
      exact hs
    have h50' : I4 50 0 0 0 = nI (lT (yL a)) := by rw [t4.1.g (c := 50) (z := 0) (by simp [LT9, LT8, LT])]; exact h50
    have er := r_seen hA hB4 S rq4 hs4
    have ep : (!ex (fun k_1 => (qrc (yL a) (bWord (xB (yE a)) (nI c) (k % lT (yL a)) (nI (k / lT (yL a)))) (tw0 (yL a)) (dy0 (yL a) (xB (yE a))) (xs1 (yE a) k_1) (xs2 (yE a) k_1) && !bt (qdf (yL a)) (xs2 (yE a) k_1)) != xs3 (yE a) k_1) 0 (xsn (yE a))) = spq a c k := by
      unfold spq
      congr 1
      refine ex_cong fun i _ hi => ?_
      obtain ⟨y1, y2⟩ := hA.2.1.2.2.2.2 i (by omega)
      unfold asS
      rw [bWord_rc (by omega) (by omega)]
      by_cases e : xs1 (yE a) i = c
      · rw [e, bt_bs _ _ _ _ _ (by omega) (by omega), b_0, Nat.zero_add, decide_eq_true (Nat.zero_le (xs2 (yE a) i)), decide_eq_true y2, Bool.false_or, Bool.true_and, Bool.true_and]
      · rw [decide_eq_false e, Bool.false_and, Bool.false_and]
    rw [ep] at er
    refine wp_bindE _ er ?_
    rw [h50', dv, rm, n_100, idx_n, nI_1, nI_1]
    have go : ∀ s', s' = sst (spq a c) (lT (yL a)) k s → wp (f_X8_sent_72 g I4 (nI c) v2 (nI s'.1) s'.2 (nI (k + 1))) (fun w => w.1 = (if v2 = 0 then nI (sfl (spq a c) (lT (yL a)) k (m + 1) s).1 else (sfl (spq a c) (lT (yL a)) k (m + 1) s).2) ∧ T9 (bn (xB (yE a))) I3 w.2 ∧ w.2 8 0 0 30 = nI (bn (xB (yE a)))) := by
      intro s' hs'
      rw [sfl, ← hs']
      refine wp_mono (ih g (k + 1) I4 s' (by omega) (by omega) ⟨_, _, _, rq4⟩ h50' hs4) ?_
      rintro w ⟨w1, w2, w3⟩
      exact ⟨w1, t4.tr w2, w3⟩
    refine wp_ite (fun q => ?_) (fun q => ?_)
    · exact go s (by unfold sst; rw [bI_0.mp q]; rfl)
    · have e1 : spq a c k = true := by
        cases e : spq a c k
        · exact absurd (bI_0.mpr e) q
        · rfl
      refine wp_ite (fun q2 => wp_gd hne (wp_bnd ?_)) (fun q2 => ?_)
      · exact go (s.1 + 1, nI (100 * (k / lT (yL a)) + k % lT (yL a))) (by unfold sst; rw [e1, if_pos rfl, if_pos q2])
      · exact go (s.1 + 1, s.2) (by unfold sst; rw [e1, if_pos rfl, if_neg q2])
theorem p_sent (h : G I P) (v1 v2 : Int32) : Pr (f_L_sent I P O D n v1 v2) (fun I => f_X8_sent I v1 v2) n := by
  obtain ⟨l, a, hA, hC, hR⟩ := h
  have hC6 := hA.1.2.2.1
  have hJ5 := hA.1.2.1
  have hT9 := hA.1.1
  have S := B_SOK hA.1 (A_BOK hA).1 (fun _ => false)
  obtain ⟨hR0, hK0⟩ := r_code hR 0
  refine L_q hA hC hR ?_
  unfold f_X7_sent
  have i2 : ∀ J : Mem, f_X8_isIn J v2.toInt64 0 2 = some (bI (inR v2 3)) := by
    intro J
    rw [show (2 : Int64) = (nI 2).toInt64 by decide, i64, (inS (v := v2) (n := 2)).resolve_right (by omega)]
  have no : inR v1 (lC (yL a)) = false ∨ inR v2 3 = false → wp (f_X8_sent I v1 v2) (fun w => w.2 8 0 0 2 = 1 ∧ GR w.2 a ∧ Kr I w.2) := by
    intro q
    unfold f_X8_sent
    refine wp_bnd (wp_bindE _ (r_case hA hR0 v1) ?_)
    refine wp_ite (fun _ => r_fail1 hR 1) (fun q1 => wp_bindE _ (i2 _) (wp_ite (fun _ => r_fail1 hR 1) (fun q2 => ?_)))
    rcases q with q | q
    · exact absurd (bI_0.mpr q) q1
    · exact absurd (bI_0.mpr q) q2
  refine wp_thb (q_case hA hC v1) (fun b1 => wp_thb (q_what I v2 (n := 2) (by omega)) (fun b2 => ?_) (fun b2 => Or.inr ⟨rfl, no (by simp [b2])⟩)) (fun b1 => Or.inr ⟨rfl, no (by simp [b1])⟩)
  obtain ⟨c, hc, rfl⟩ := inR_t (by omega) b1
  refine Q_court hA hC ?_
  intro I1 P1 hC1 hst
  have e0 : (!ex (asS (qrc (yL a) (xB (yE a)) (tw0 (yL a)) (dy0 (yL a) (xB (yE a)))) (qdf (yL a)) 0 c (xs1 (yE a)) (xs2 (yE a)) (xs3 (yE a))) 0 (xsn (yE a))) = !ex (fun k => (qrc (yL a) (xB (yE a)) (tw0 (yL a)) (dy0 (yL a) (xB (yE a))) (xs1 (yE a) k) (xs2 (yE a) k) && !bt (qdf (yL a)) (xs2 (yE a) k)) != xs3 (yE a) k) 0 (xsn (yE a)) := by
    congr 1
    refine ex_cong fun i _ _ => ?_
    unfold asS
    rw [b_0, Bool.and_false, Bool.or_false]
  have ref : ∀ v, v = (if v2 = 2 then bI (!ex (asS (qrc (yL a) (xB (yE a)) (tw0 (yL a)) (dy0 (yL a) (xB (yE a)))) (qdf (yL a)) 0 c (xs1 (yE a)) (xs2 (yE a)) (xs3 (yE a))) 0 (xsn (yE a))) else if v2 = 0 then nI (sfl (spq a c) (lT (yL a)) 0 (lT (yL a) * 61) (0, -1)).1 else (sfl (spq a c) (lT (yL a)) 0 (lT (yL a) * 61) (0, -1)).2) → GR I1 a → wp (f_X8_sent I1 (nI c) v2) (fun w => w.1 = v ∧ w.2 8 0 0 2 = 0 ∧ GR w.2 a ∧ Kr I1 w.2) := by
    intro v hv hR1
    obtain ⟨hR10, _⟩ := r_code hR1 0
    unfold f_X8_sent
    refine wp_bnd (wp_bindE _ (r_case hA hR10 _) ?_)
    rw [b1]
    refine wp_neg (by decide) (wp_bindE _ (i2 _) ?_)
    rw [b2]
    refine wp_neg (by decide) (R_tell3 hA hR1 ?_)
    rintro ⟨u, I3⟩ rq rj hR3
    have rq' : qRQ I3 (yL a) (xB (yE a)) (tw0 (yL a)) (dy0 (yL a) (xB (yE a))) (qmt (yL a) (xB (yE a)) (tw0 (yL a)) (dy0 (yL a) (xB (yE a))) (binns (xB (yE a)))) (qdf (yL a)) 0 (-1) := rq
    have hR3' : GR I3 a := hR3
    have hbn : I3 8 0 0 30 = nI (bn (xB (yE a))) := rq'.2.2.1.1
    refine wp_ite (fun q => ?_) (fun q => wp_bnd ?_)
    · rw [if_pos q, e0] at hv
      refine wp_bindE _ (r_seen hA (A_BOK hA) S rq' hR3'.2.1.2.2.2.1) ?_
      refine wp_ite (fun q2 => wp_some ⟨?_, T8.rfl.t9, rfl⟩) (fun q2 => wp_some ⟨?_, T8.rfl.t9, rfl⟩)
      · rw [hv, bI_0.mp q2]; rfl
      · rw [hv]
        cases e : (!ex (fun k => (qrc (yL a) (xB (yE a)) (tw0 (yL a)) (dy0 (yL a) (xB (yE a))) (xs1 (yE a) k) (xs2 (yE a) k) && !bt (qdf (yL a)) (xs2 (yE a) k)) != xs3 (yE a) k) 0 (xsn (yE a)))
        · rw [e] at q2; exact absurd rfl q2
        · rfl
    · rw [if_neg q] at hv
      obtain ⟨x1, x2⟩ := xW_begin rq'
      have hs3 : rSn (upd4 I3 8 0 0 30 (I3 8 0 0 30 + 1)) 77 34 (yE a) := by
        unfold rSn
        rw [u_if, if_neg (by omega), u_c (show (77 : Nat) ≠ 8 by decide), u_c (show (77 + 1 : Nat) ≠ 8 by decide), u_c (show (77 + 2 : Nat) ≠ 8 by decide)]
        exact hR3'.2.1.2.2.2.1
      refine wp_mono (r_sent_72 hA hc (v2 := v2) (lT (yL a) * 61) FU 0 _ (0, -1) (by omega) (by unfold FU; omega) x1 (by rw [u_c (by decide)]; exact hR3'.1.2.2.2.2.1) hs3) ?_
      rintro w ⟨w1, w2, w3⟩
      exact ⟨w1.trans hv.symm, x2.tr w2, w3.trans hbn.symm⟩
  refine wp_ite (fun q => ?_) (fun q => ?_)
  · refine wp_bindE _ (q_seen (I1 := I1) (P1 := P1) hA hC1 hst hc 0) ?_
    refine wp_ite (fun q2 => q2_same hC1 (ref _ ?_)) (fun q2 => q2_same hC1 (ref _ ?_))
    · rw [if_pos q, bI_0.mp q2]; rfl
    · rw [if_pos q]
      cases e : (!ex (asS (qrc (yL a) (xB (yE a)) (tw0 (yL a)) (dy0 (yL a) (xB (yE a)))) (qdf (yL a)) 0 c (xs1 (yE a)) (xs2 (yE a)) (xs3 (yE a))) 0 (xsn (yE a)))
      · rw [e] at q2; exact absurd rfl q2
      · rfl
  · have ec := c_sent_44 hA hC1 hst hc (v2 := v2) 61 FU 0 (0, -1) (by omega) (by unfold FU; omega)
    rw [Nat.mul_zero] at ec
    exact wp_of ec ⟨_, I1, P1, rfl, hC1, Kc.rfl, ref _ (by rw [if_neg q])⟩
end
