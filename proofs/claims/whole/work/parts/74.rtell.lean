/-! the reference: a telling, whole -/
abbrev qRQ (I : Mem) (L : Land) (B : Ben) (tw : Nat → Nat → Nat) (dy : Nat → Nat → Int32) (mt : Nat → Nat → Int32) (df mu mc : Int32) : Prop :=
  rQ I (lC L) (lJ L) (lT L) (lns L) tw dy (lrd L) (lgg L) (lnw L) (bn B) (bw1 B) (bwt B) (bw3 B) (qtl L B tw dy) (qsd L B tw dy) (qsn L B tw dy) (qgv L B tw dy) mt df mu mc
abbrev qvd (L : Land) (B : Ben) (tw : Nat → Nat → Nat) (dy : Nat → Nat → Int32) (df mu mc : Int32) (c j : Nat) : Bool :=
  vdr (lnw L) (lJ L) (lns L) tw dy (qtl L B tw dy) (qsd L B tw dy) (qsn L B tw dy) (bn B) (bw1 B) (bwt B) (bw3 B) df mu mc c j
/-- all cases judged -/
def jud (I : Mem) (L : Land) (B : Ben) (tw : Nat → Nat → Nat) (dy : Nat → Nat → Int32) (inns df mu mc : Int32) : Prop :=
  ∀ c, c < lC L → (∀ j, j < lJ L → I 74 0 0 (5 * c + j) = bI (qvd L B tw dy df mu mc c j)) ∧ jst I c (qtr L B tw dy inns (more mu mc c) df c)
def gcn (L : Land) (B : Ben) (tw : Nat → Nat → Nat) (dy : Nat → Nat → Int32) (inns df mu mc : Int32) : Nat := cn (fun c => !decide ((qtr L B tw dy inns (more mu mc c) df c).1 = 0)) 0 (lC L)
def LT : List (Nat × Nat) := [(66, 0), (67, 0), (68, 0), (69, 0), (70, 0), (71, 0), (72, 0), (73, 0), (74, 0), (75, 0), (76, 0)]
section
variable {L : Land} {B : Ben} {tw : Nat → Nat → Nat} {dy : Nat → Nat → Int32}
theorem r_tell_31 (hS : SOK L tw dy) {Q : Int32 × Mem → Prop} : ∀ m fu d I, d + m = 115 → m < fu →
    rH I (lJ L) (lns L) tw dy (lC L) (lpf L) (lkd L) (lhs L) (lcd L) (llen L) (bnf B) (bf1 B) (bf2 B) (bf3 B) →
    hR I (lC L) (lJ L) (qH L B tw dy) tw dy (qgv L B tw dy) (cut dy (lns L) d) →
    (∀ I', Fr LR I I' → hR I' (lC L) (lJ L) (qH L B tw dy) tw dy (qgv L B tw dy) (lns L) → wp ((f_X8_judgeAll I').bind fun y1 => some (y1.1, y1.2)) Q) →
    wp (f_X8_tell_31 fu I (nI d)) Q := by
  intro m
  induction m with
  | zero =>
    intro fu d I hk hf h hh hK
    obtain ⟨g, rfl⟩ := Nat.exists_eq_succ_of_ne_zero (by omega : fu ≠ 0)
    unfold f_X8_tell_31
    refine wp_pos (by rw [show (114 : Int32) = nI 114 from rfl, nI_ltI (by omega) (by omega)]; omega) (hK I Fr.rfl ?_)
    intro c hc j hj
    have := hh c hc j hj
    have e : cut dy (lns L) d j = lns L j := by
      have : ff (fun i => decide (nI d ≤ dy j i)) 0 (lns L j) = 0 + lns L j := by
        refine ff_none _ ?_
        intro i _ hi
        refine decide_eq_false ?_
        have := hS.1.1 j i hj (by omega)
        rw [fa_le, nI_toInt (by omega)]; omega
      unfold cut; omega
    rwa [e] at this
  | succ m ih =>
    intro fu d I hk hf h hh hK
    obtain ⟨g, rfl⟩ := Nat.exists_eq_succ_of_ne_zero (by omega : fu ≠ 0)
    have hJ5 := h.1.2.1
    unfold f_X8_tell_31
    refine wp_neg (by rw [show (114 : Int32) = nI 114 from rfl, nI_ltI (by omega) (by omega)]; omega) ?_
    refine r_tell_39 (C := lC L) (pf := lpf L) (kd := lkd L) (hs := lhs L) (cd := lcd L) (len := llen L) (nf := bnf B) (f1 := bf1 B) (f2 := bf2 B) (f3 := bf3 B) hS.1 (by omega : d ≤ 114) (lJ L) FU 0 I (by omega) (by unfold FU; omega) h ?_ ?_
    · intro c hc j hj
      simp only [Nat.not_lt_zero, if_false]
      exact hh c hc j hj
    · intro I' F h'
      exact ih g (d + 1) I' (by omega) (by omega) (rH_fr h F (by simp [LR])) h' (fun I2 F2 h2 => hK I2 (F.tr F2) h2)
theorem r_tell_10 {Q : Int32 × Mem → Prop} : ∀ m fu k I, k + m = 30 → m < fu → (∀ x, x < k → I 71 0 0 x = -1) →
    (∀ I', Fr [(71, 0)] I I' → (∀ x, x < 30 → I' 71 0 0 x = -1) → wp (f_X8_tell_31 FU I' 0) Q) →
    wp (f_X8_tell_10 fu I (nI k)) Q := by
  intro m
  induction m with
  | zero =>
    intro fu k I hk hf hh hK
    obtain ⟨g, rfl⟩ := Nat.exists_eq_succ_of_ne_zero (by omega : fu ≠ 0)
    unfold f_X8_tell_10
    have hk' : k = 30 := by omega
    rw [hk'] at hh
    exact wp_pos (by rw [show (30 : Int32) = nI 30 from rfl, nI_leI (by omega) (by omega)]; omega) (hK I Fr.rfl hh)
  | succ m ih =>
    intro fu k I hk hf hh hK
    obtain ⟨g, rfl⟩ := Nat.exists_eq_succ_of_ne_zero (by omega : fu ≠ 0)
    unfold f_X8_tell_10
    refine wp_neg (by rw [show (30 : Int32) = nI 30 from rfl, nI_leI (by omega) (by omega)]; omega) (wp_gd (inb_n (by omega)) (wp_bnd ?_))
    rw [nI_clamp (by omega), nI_1]
    have F : Fr [(71, 0)] I (upd4 I 71 0 0 k (-1)) := Fr.up (by simp)
    refine ih g (k + 1) _ (by omega) (by omega) ?_ (fun I' F' h' => hK I' (F.tr F') h')
    intro x hx
    rw [u_if]
    by_cases e : x = k
    · rw [if_pos ⟨rfl, e⟩]
    · rw [if_neg (fun q => e q.2)]; exact hh x (by omega)
theorem rJ_bw {I : Mem} {bw : Int32} {bw' : Nat → Bool} {d0 : Nat → Int32} (hbw : ∀ j, j < lJ L → bwf bw j = bw' j) (h : rJ I (lJ L) (lns L) (twB L (bwf bw)) (dyB L (bwf bw) d0)) : rJ I (lJ L) (lns L) (twB L bw') (dyB L bw' d0) := by
  obtain ⟨h1, h2, h3, h4⟩ := h
  refine ⟨h1, h2, h3, fun j hj i hi => ?_⟩
  have := h4 j hj i hi
  have e : twB L (bwf bw) j = twB L bw' j := by unfold twB; rw [hbw j hj]
  unfold dyB at *
  rw [e] at this
  exact this
theorem r_tell (hL : LOK L) (hB : BOK L B) {bw df mu mc : Int32} {bw' : Nat → Bool} (hbw : ∀ j, j < lJ L → bwf bw j = bw' j) {I : Mem} (h : LdR I L) (hb : RB I (lJ L) B) (h40 : I 8 0 0 40 = bw) (h41 : I 8 0 0 41 = df) (h42 : I 8 0 0 42 = mu) (h43 : I 8 0 0 43 = mc) :
    wp (f_X8_tell I) (fun r => Fr LT I r.2 ∧ r.1 = nI (gcn L B (twB L bw') (dyB L bw' (bd0 B)) (binns B) df mu mc) ∧
      qRQ r.2 L B (twB L bw') (dyB L bw' (bd0 B)) (qmt L B (twB L bw') (dyB L bw' (bd0 B)) (binns B)) df mu mc ∧
      jud r.2 L B (twB L bw') (dyB L bw' (bd0 B)) (binns B) df mu mc) := by
  have hS := B_SOK hL hB.1 bw'
  have ⟨hT9, hJ5, hC6, hns, hrt, hrm, hsy, hvl, hwy⟩ := hL
  unfold f_X8_tell
  refine wp_bind (r_tellStops hL h h40 hb.1) ?_
  rintro I1 ⟨F1, hJ0⟩
  have hJ1 : rJ I1 (lJ L) (lns L) (twB L bw') (dyB L bw' (bd0 B)) := rJ_bw hbw hJ0
  have h1 : LdR I1 L := RL_fr h F1 (by simp)
  have b1 : RB I1 (lJ L) B := RB_fr hb F1 (F1.k8 (by simp)) (by simp)
  have N1 : rN I1 (lT L) (lrd L) (lgg L) (lnw L) := ⟨hT9, h1.2.2.2.2.2.2.2.2.2.2.2.1, h1.2.2.2.2.2.2.2.2.2.2.1, hwy⟩
  refine wp_bind (r_meet (inns := binns B) hS.1 (fun j hj => (hns j hj).1) hS.2 hB.2.2.1 hB.2.2.2.1 hJ1 N1 b1.2.2.2.2 b1.2.1) ?_
  rintro I2 ⟨F2, m2⟩
  refine r_tell_10 30 FU 0 I2 (by omega) (by unfold FU; omega) (fun x hx => absurd hx (Nat.not_lt_zero x)) ?_
  intro I3 F3 s3
  have F13 : Fr [(70, 0), (71, 0)] I1 I3 := (F2.sub (by simp)).tr (F3.sub (by simp))
  have h3 : LdR I3 L := RL_fr h1 F13 (by simp)
  have b3' : RB I3 (lJ L) B := RB_fr b1 F13 (F13.k8 (by simp)) (by simp)
  have J3 : rJ I3 (lJ L) (lns L) (twB L bw') (dyB L bw' (bd0 B)) := by
    unfold rJ; rw [F13.g (c := 50) (z := 0) (by simp), F13.g (c := 55) (z := 0) (by simp), F13.g (c := 68) (z := 0) (by simp), F13.g (c := 69) (z := 0) (by simp)]; exact hJ1
  have H3 : rH I3 (lJ L) (lns L) (twB L bw') (dyB L bw' (bd0 B)) (lC L) (lpf L) (lkd L) (lhs L) (lcd L) (llen L) (bnf B) (bf1 B) (bf2 B) (bf3 B) :=
    ⟨J3, ⟨h3.2.2.2.2.2.1, hC6, h3.2.2.2.2.2.2.1⟩, h3.2.2.2.2.2.2.2.1, ⟨h3.2.2.2.2.2.2.2.2.1, h3.2.2.2.2.2.2.2.2.2.1, hvl⟩, b3'.2.2.2.1, hB.2.1⟩
  refine r_tell_31 hS 115 FU 0 I3 (by omega) (by unfold FU; omega) H3 ?_ ?_
  · intro c hc j hj
    have e : cut (dyB L bw' (bd0 B)) (lns L) 0 j = 0 := by
      have hj1 := hns j hj
      unfold cut
      rw [show lns L j = (lns L j - 1) + 1 by omega, ff, if_pos]
      have := hS.1.1 j 0 hj (by omega)
      refine decide_eq_true ?_
      rw [fa_le, nI_toInt (by omega)]; omega
    rw [e]
    refine ⟨?_, fun q => absurd q (Nat.not_lt_zero _)⟩
    rw [s3 _ (by omega)]
    simp [sgA]
  · intro I4 F4 hh4
    have F14 : Fr [(66, 0), (67, 0), (70, 0), (71, 0), (72, 0), (73, 0)] I1 I4 := (F13.sub (by simp)).tr (F4.sub (by simp [LR]))
    have h4 : LdR I4 L := RL_fr h1 F14 (by simp)
    have b4 : RB I4 (lJ L) B := RB_fr b1 F14 (F14.k8 (by simp)) (by simp)
    have e8 : I4 8 0 = I 8 0 := (F14.g (by simp)).trans (F1.g (by simp))
    have q4 : qRQ I4 L B (twB L bw') (dyB L bw' (bd0 B)) (qmt L B (twB L bw') (dyB L bw' (bd0 B)) (binns B)) df mu mc := by
      refine ⟨?_, ⟨hT9, h4.2.2.2.2.2.2.2.2.2.2.2.1, h4.2.2.2.2.2.2.2.2.2.2.1, hwy⟩, b4.2.2.1, ?_, ?_, by rw [e8]; exact h41, by rw [e8]; exact h42, by rw [e8]; exact h43, h4.2.2.2.2.2.1⟩
      · unfold rJ; rw [F14.g (c := 50) (z := 0) (by simp), F14.g (c := 55) (z := 0) (by simp), F14.g (c := 68) (z := 0) (by simp), F14.g (c := 69) (z := 0) (by simp)]; exact hJ1
      · intro c hc j hj
        obtain ⟨a, b⟩ := hh4 c hc j hj
        refine ⟨a.trans ?_, fun ht => ?_⟩
        · unfold sgA qtl
          by_cases e : ff (qH L B (twB L bw') (dyB L bw' (bd0 B)) c j) 0 (lns L j) < lns L j
          · rw [if_pos e, decide_eq_true e]; rfl
          · rw [if_neg e, decide_eq_false e]; rfl
        · have ht' := of_decide_eq_true ht
          refine ⟨(b ht').1.trans ?_, (b ht').2⟩
          exact (if_pos ht' : qsd L B (twB L bw') (dyB L bw' (bd0 B)) c j = _).symm
      · intro a b ha hb'
        rw [F4.g (c := 70) (z := 0) (by simp [LR]), F3.g (c := 70) (z := 0) (by simp)]
        exact m2 a b ha hb'
    refine wp_bind (r_ja (q_okQ hL hB hS) q4) ?_
    rintro ⟨y, I5⟩ ⟨F5', e5, j5⟩
    have F5 : Fr [(74, 0), (75, 0), (76, 0)] I4 I5 := F5'
    refine wp_some ⟨((F1.sub (by simp [LT])).tr (F14.sub (by simp [LT]))).tr (F5.sub (by simp [LT])), e5, rQ_fr q4 F5 (by simp), j5⟩
end
