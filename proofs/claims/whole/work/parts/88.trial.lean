/-! the trial court; burn -/
def TRI (l : Nat) : List (Nat × Nat) := [(1, 1), (12, 1), (14, 1), (16, 1), (18, 1), (20, 1), (21, 1), (23, 1), (24, 1), (25, 1), (42, l), (43, l)]
section
variable {I : Mem} {P : PMem} {l : Nat} {a : Abs} {O : Nat → Int64} {D : Bool} {n : Nat}
theorem cJ_frz {P' : PMem} {z J : Nat} {ns : Nat → Nat} {tw : Nat → Nat → Nat} {dy : Nat → Nat → Int32} {I' : Mem} {S : List (Nat × Nat)} (h : cJ I P z J ns tw dy) (F : Fr S I I') (hP : P' 1 z 0 0 = P 1 z 0 0) (h3 : ∀ z, ¬ (3, z) ∈ S) (h36 : ∀ z, ¬ (36, z) ∈ S) (h12 : ¬ (12, z) ∈ S) (h14 : ¬ (14, z) ∈ S) : cJ I' P' z J ns tw dy := by
  unfold cJ at *
  rw [hP, F.gc h3, F.gc h36, F.g h12, F.g h14]
  exact h
theorem stl_tr {I' : Mem} {P' : PMem} (h : stl I P 0 l (yL a) (xB (yE a))) (F : Fr (TRI l) I I') (hP : P' 1 0 0 0 = P 1 0 0 0 ∧ P' 1 0 0 1 = P 1 0 0 1) : stl I' P' 0 l (yL a) (xB (yE a)) := by
  obtain ⟨s1, s2, s3, s4, s5, s6⟩ := h
  refine ⟨by rw [hP.1]; exact s1, by rw [hP.2]; exact s2, ?_, cJ_frz s4 F hP.1 (by simp [TRI]) (by simp [TRI]) (by simp [TRI]) (by simp [TRI]), vS_fr s5 F (by simp [TRI]), ?_⟩
  · rw [F.g (c := 1) (z := 0) (by simp [TRI])]; exact s3
  · rw [F.g (c := 24) (z := 0) (by simp [TRI])]; exact s6
theorem GC_tr {I' : Mem} {P' : PMem} (h : GC I P l a) (F : Fr (TRI l) I I') (hP : ∀ c r i, P' c 0 r i = P c 0 r i) : GC I' P' l a := by
  refine GC_w h F (by simp [TRI]) (fun f _ => by rw [F.g (c := 7) (z := 0) (by simp [TRI])]) ⟨hP _ _ _, hP _ _ _⟩ ?_
  rw [F.g (c := 7) (z := 0) (by simp [TRI])]
  rcases h.2.2.2.2.2.2.2 with q | ⟨q, hs⟩
  · exact Or.inl q
  · exact Or.inr ⟨q, stl_tr hs F ⟨hP _ _ _, hP _ _ _⟩⟩
/-- the trial court, loaded -/
def ldT (I : Mem) (P : PMem) (l : Nat) (a : Abs) (tw : Nat → Nat → Nat) (dy : Nat → Nat → Int32) : Prop :=
  P 1 1 0 0 = l ∧ P 1 1 0 1 = 0 ∧ I 1 1 0 2 = qdf (yL a) ∧ cJ I P 1 (lJ (yL a)) (lns (yL a)) tw dy
theorem q_load1 (hA : AOK a) (h : GC I P l a) : wp (f_X1_load 1 l 0 I P) (fun r => GC r.1 r.2 l a ∧ ldT r.1 r.2 l a (tw0 (yL a)) (dy0 (yL a) (xB (yE a))) ∧ Fr (TRI l) I r.1 ∧ ∀ c r' i, r.2 c 0 r' i = P c 0 r' i) := by
  have ⟨⟨p1, p2, p3⟩, c1, c2, _⟩ := h
  refine wp_mono (c_load (P := P) (z := 1) p2 c1.1 (fun j hj => (c1.2.2.2.2.1 j hj).1) c2.1.1) ?_
  rintro ⟨I1, P1⟩ ⟨r1, F1', r3, r4⟩
  have F1 : Fr (TRI l) I I1 := Fr.sub F1' (by simp [TRI])
  have r1' : P1 = ldP P 1 l := r1
  subst r1'
  have hP : ∀ c r i, ldP P 1 l c 0 r i = P c 0 r i := fun c r i => by simp [ldP, updP]
  refine ⟨GC_tr h F1 hP, ⟨by simp [ldP, updP], by simp [ldP, updP], r3, r4⟩, F1, hP⟩
theorem Kc_tr {I' : Mem} (F : Fr (TRI l) I I') : Kc I I' := F.kc (by simp [TRI])
/-! the best of a row of trials -/
def bst (p : Nat → Bool) (nb : Nat → Nat) (k : Nat) (s : Int32 × Int32) : Int32 × Int32 := if p k = true then (if s.2 < nI (nb k) then (nI k, nI (nb k)) else s) else s
def bfl (p : Nat → Bool) (nb : Nat → Nat) : Nat → Nat → Int32 × Int32 → Int32 × Int32
  | _, 0, s => s
  | k, m + 1, s => bfl p nb (k + 1) m (bst p nb k s)
def inx (x : Int32) (t : Nat) : Int32 := x &&& (jshl 1 (nI t) ^^^ (-1))
theorem inx_x {x : Int32} {t : Nat} (ht : t < 32) (hb : bt x t = true) : x ^^^ jshl 1 (nI t) = inx x t := by
  apply b_ext
  intro i hi
  unfold inx
  rw [b_xor, b_and, bt_not hi, bt_1 ht hi]
  by_cases e : i = t
  · rw [e, hb]; simp
  · rw [decide_eq_false e]; simp
theorem inx_b {x : Int32} {t : Nat} (ht : t < 32) (hb : bt x t = true) : inx x t ^^^ jshl 1 (nI t) = x := by
  rw [← inx_x ht hb]
  apply b_ext
  intro i hi
  rw [b_xor, b_xor, bt_1 ht hi]
  cases bt x i <;> cases decide (i = t) <;> rfl
def nbq (a : Abs) (t : Nat) : Nat := gcn (yL a) (xB (yE a)) (tw0 (yL a)) (dy0 (yL a) (xB (yE a))) (inx (binns (xB (yE a))) t) (qdf (yL a)) 0 (-1)
theorem q_trial {tw : Nat → Nat → Nat} {dy : Nat → Nat → Int32} (hA : AOK a) (hS : SOK (yL a) tw dy) (h : GC I P l a) (hT : ldT I P l a tw dy) (hh : heard I 1 (yL a) (xB (yE a)) tw dy) {mt : Nat → Nat → Int32} (hm : ∀ x y, x < lJ (yL a) → y < lJ (yL a) → x ≠ y → I 23 1 x y = mt x y) :
    wp ((f_X1_decideAll P 1 I).bind fun y2 => (f_X1_howManyGuilty y2 P 1).bind fun y3 => some (y3, y2)) (fun r => r.1 = nI (cn (fun c => !decide ((trv (lJ (yL a)) (qtl (yL a) (xB (yE a)) tw dy) (qsd (yL a) (xB (yE a)) tw dy) (qst (yL a) (xB (yE a)) tw dy) (qgv (yL a) (xB (yE a)) tw dy) (qrc (yL a) (xB (yE a)) tw dy) mt 0 (qdf (yL a)) c).1 = 0)) 0 (lC (yL a))) ∧ Fr [(24, 1)] I r.2) := by
  have hv := heard_vS hh hm
  refine wp_bind (q_decide hA.1 h.2.1 hT.2.2.2 hT.1 hv hT.2.2.1) ?_
  rintro I2 ⟨F2, t2⟩
  have e3 : I2 3 (P 1 1 0 0) 0 13 = nI (lC (yL a)) := by rw [F2.gc (c := 3) (by simp), hT.1]; exact h.2.1.2.2.1
  refine wp_bindE _ (c_many (I := I2) (P := P) (z := 1) hT.2.2.2.1 e3 hA.1.2.2.1 t2) (wp_some ⟨rfl, F2⟩)
theorem c_burn_34 (hA : AOK a) {v1 : Int32} : ∀ m fu k I1 s, k + m = lT (yL a) → m < fu → GC I1 P l a → ldT I1 P l a (tw0 (yL a)) (dy0 (yL a) (xB (yE a))) → heard I1 1 (yL a) (xB (yE a)) (tw0 (yL a)) (dy0 (yL a) (xB (yE a))) →
    wp (f_X7_burn_34 fu I1 P v1 s.1 s.2 (nI k)) (fun y => ∃ I2, y = Sum.inl (if v1 = 0 then (bfl (fun t => bt (binns (xB (yE a))) t) (nbq a) k m s).1 else (bfl (fun t => bt (binns (xB (yE a))) t) (nbq a) k m s).2, I2, P) ∧ GC I2 P l a ∧ Fr (TRI l) I1 I2) := by
  have hT9 := hA.1.1
  have S := B_SOK hA.1 (A_BOK hA).1 (fun _ => false)
  intro m
  induction m with
  | zero =>
    intro fu k I1 s hk hf hC hT hh
    obtain ⟨g, rfl⟩ := Nat.exists_eq_succ_of_ne_zero (by omega : fu ≠ 0)
    have ⟨⟨p1, p2, p3⟩, c1, _⟩ := hC
    unfold f_X7_burn_34
    rw [p1, c1.2.1]
    refine wp_gd (dlt p2) (wp_pos (by rw [nI_leI (by omega) (by omega)]; omega) ?_)
    exact wp_ite (fun q => wp_some ⟨I1, by rw [if_pos q]; rfl, hC, Fr.rfl⟩) (fun q => wp_some ⟨I1, by rw [if_neg q]; rfl, hC, Fr.rfl⟩)
  | succ m ih =>
    intro fu k I1 s hk hf hC hT hh
    obtain ⟨g, rfl⟩ := Nat.exists_eq_succ_of_ne_zero (by omega : fu ≠ 0)
    have ⟨⟨p1, p2, p3⟩, c1, c2, _⟩ := hC
    have ei : I1 0 0 0 1 = binns (xB (yE a)) := c2.1.2.1
    unfold f_X7_burn_34
    rw [p1, c1.2.1, ei, ush1 (by omega)]
    refine wp_gd (dlt p2) (wp_neg (by rw [nI_leI (by omega) (by omega)]; omega) (wp_ite (fun q => ?_) (fun q => ?_)))
    · have qb : bt (binns (xB (yE a))) k = true := by
        revert q; cases bt (binns (xB (yE a))) k <;> decide
      refine wp_bind (q_meet hA.1 (A_BOK hA) S c1 c2.1 hT.2.2.2 hT.1 hT.2.1 _) ?_
      rintro I2 ⟨F2, m2⟩
      have F2' : Fr (TRI l) I1 I2 := F2.sub (by simp [TRI])
      have hC2 := GC_tr (P' := P) hC F2' (fun _ _ _ => rfl)
      have hT2 : ldT I2 P l a (tw0 (yL a)) (dy0 (yL a) (xB (yE a))) := ⟨hT.1, hT.2.1, by rw [F2.g (c := 1) (z := 1) (by simp)]; exact hT.2.2.1, cJ_fr hT.2.2.2 F2 (by simp)⟩
      have hh2 := heard_fr hh F2 (by simp)
      obtain ⟨⟨y, I3⟩, e3, r3, F3'⟩ := q_trial hA S hC2 hT2 hh2 m2
      have F3 : Fr [(24, 1)] I2 I3 := F3'
      have r3' : y = nI (nbq a k) := by
        have : y = _ := r3
        rw [this]
        unfold nbq gcn
        simp only [more0]
        rfl
      have F13 : Fr (TRI l) I1 I3 := F2'.tr (F3.sub (by simp [TRI]))
      have hC3 := GC_tr (P' := P) hC F13 (fun _ _ _ => rfl)
      have hT3 : ldT I3 P l a (tw0 (yL a)) (dy0 (yL a) (xB (yE a))) := ⟨hT.1, hT.2.1, by rw [F3.g (c := 1) (z := 1) (by simp)]; exact hT2.2.2.1, cJ_fr hT2.2.2.2 F3 (by simp)⟩
      have hh3 := heard_fr hh2 F3 (by simp)
      have go : ∀ s', s' = bst (fun t => bt (binns (xB (yE a))) t) (nbq a) k s → wp (f_X7_burn_34 g I3 P v1 s'.1 s'.2 (nI (k + 1))) (fun y => ∃ I2, y = Sum.inl (if v1 = 0 then (bfl (fun t => bt (binns (xB (yE a))) t) (nbq a) k (m + 1) s).1 else (bfl (fun t => bt (binns (xB (yE a))) t) (nbq a) k (m + 1) s).2, I2, P) ∧ GC I2 P l a ∧ Fr (TRI l) I1 I2) := by
        intro s' hs'
        rw [bfl, ← hs']
        refine wp_mono (ih g (k + 1) I3 s' (by omega) (by omega) hC3 hT3 hh3) ?_
        rintro y ⟨I4, y1, y2, y3⟩
        exact ⟨I4, y1, y2, F13.tr y3⟩
      obtain ⟨I2b, eb, e3b⟩ := Option.bind_eq_some_iff.mp e3
      obtain ⟨yb, ec, e3c⟩ := Option.bind_eq_some_iff.mp e3b
      cases e3c
      rw [eb, Option.bind_some, ec, Option.bind_some, r3', nI_1]
      refine wp_ite (fun q2 => go s ?_) (fun q2 => go (nI k, nI (nbq a k)) ?_)
      · unfold bst
        rw [if_pos qb, if_neg (fun h => (fa_of_lt h).2.1 q2)]
      · unfold bst
        rw [if_pos qb, if_pos (fa_of_nle q2)]
    · have qb : bt (binns (xB (yE a))) k = false := by
        revert q; cases bt (binns (xB (yE a))) k <;> decide
      rw [nI_1, bfl]
      have : bst (fun t => bt (binns (xB (yE a))) t) (nbq a) k s = s := by unfold bst; show (if bt (binns (xB (yE a))) k = true then _ else s) = s; rw [qb]; rfl
      rw [this]
      exact ih g (k + 1) I1 s (by omega) (by omega) hC hT hh
def bInn (B : Ben) (x : Int32) : Ben := (bd0 B, x, bnf B, bf1 B, bf2 B, bf3 B, bnl B, bgt B, bg2 B, bg3 B, bn B, bw1 B, bwt B, bw3 B)
/-- the reference, set for tellings of its own -/
def sR (I : Mem) (a : Abs) : Prop := GR I a ∧ I 8 0 0 2 = 0 ∧ I 8 0 0 40 = -1 ∧ I 8 0 0 41 = qdf (yL a) ∧ I 8 0 0 42 = 0 ∧ I 8 0 0 43 = -1
theorem R_set (hA : AOK a) (hR : GR I a) : wp (f_X8_set (upd4 I 8 0 0 2 0)) (fun r => sR r a ∧ Kr I r) := by
  obtain ⟨hR0, hK0⟩ := r_code hR 0
  refine wp_mono (r_set hA.1 hR0.1) ?_
  rintro I1 ⟨F1, k1, e40, e41, e42, e43⟩
  have K1 : K8 (upd4 I 8 0 0 2 0) I1 := fun f hf _ => k1 f hf
  exact ⟨⟨GR_t hR0 (F1.sub (by simp [LT8])) K1, by rw [k1 2 (by omega)]; exact code0 I, e40, e41, e42, e43⟩, hK0.tr (F1.kr (by simp))⟩
theorem bwf0 (hA : AOK a) : ∀ j, j < lJ (yL a) → bwf (-1) j = (fun _ : Nat => false) j := by
  intro j hj
  have := hA.1.2.1
  exact decide_eq_false (nI_ni (by omega))
theorem r_burn_31 (hA : AOK a) {v1 : Int32} : ∀ m fu k I1 s, k + m = lT (yL a) → m < fu → sR I1 a →
    wp (f_X8_burn_31 fu I1 v1 s.1 s.2 (nI k)) (fun w => w.1 = (if v1 = 0 then (bfl (fun t => bt (binns (xB (yE a))) t) (nbq a) k m s).1 else (bfl (fun t => bt (binns (xB (yE a))) t) (nbq a) k m s).2) ∧ sR w.2 a ∧ Kr I1 w.2) := by
  have hT9 := hA.1.1
  intro m
  induction m with
  | zero =>
    intro fu k I1 s hk hf hR
    obtain ⟨g, rfl⟩ := Nat.exists_eq_succ_of_ne_zero (by omega : fu ≠ 0)
    unfold f_X8_burn_31
    rw [hR.1.1.2.2.2.2.1]
    refine wp_pos (by rw [nI_leI (by omega) (by omega)]; omega) ?_
    exact wp_ite (fun q => wp_some ⟨by rw [if_pos q]; rfl, hR, Kr.rfl⟩) (fun q => wp_some ⟨by rw [if_neg q]; rfl, hR, Kr.rfl⟩)
  | succ m ih =>
    intro fu k I1 s hk hf hR
    obtain ⟨g, rfl⟩ := Nat.exists_eq_succ_of_ne_zero (by omega : fu ≠ 0)
    have ei : I1 8 0 0 29 = binns (xB (yE a)) := hR.1.2.1.1.2.1
    unfold f_X8_burn_31
    rw [hR.1.1.2.2.2.2.1, ei, ssh1 (by omega)]
    refine wp_neg (by rw [nI_leI (by omega) (by omega)]; omega) (wp_ite (fun q => ?_) (fun q => wp_bnd ?_))
    · have qb := bI_0.mp q
      rw [nI_1, bfl]
      have : bst (fun t => bt (binns (xB (yE a))) t) (nbq a) k s = s := by unfold bst; show (if bt (binns (xB (yE a))) k = true then _ else s) = s; rw [qb]; rfl
      rw [this]
      exact ih g (k + 1) I1 s (by omega) (by omega) hR
    · have qb : bt (binns (xB (yE a))) k = true := by
        cases e : bt (binns (xB (yE a))) k
        · exact absurd (bI_0.mpr e) q
        · rfl
      rw [inx_x (by omega) qb]
      have u : ∀ c, c ≠ 8 → upd4 I1 8 0 0 29 (inx (binns (xB (yE a))) k) c = I1 c := fun c hc => u_c hc
      have uf : ∀ f, f ≠ 29 → upd4 I1 8 0 0 29 (inx (binns (xB (yE a))) k) 8 0 0 f = I1 8 0 0 f := fun f hf => by rw [u_if, if_neg (fun q => hf q.2)]
      obtain ⟨g0, g2, g40, g41, g42, g43⟩ := hR
      have FL : Fr [(8, 0)] I1 (upd4 I1 8 0 0 29 (inx (binns (xB (yE a))) k)) := Fr.up (by simp)
      have rl := RL_fr g0.1 FL (by simp)
      have rb : RB (upd4 I1 8 0 0 29 (inx (binns (xB (yE a))) k)) (lJ (yL a)) (bInn (xB (yE a)) (inx (binns (xB (yE a))) k)) := by
        obtain ⟨x1, x2, x3, x4, x5⟩ := g0.2.1.1
        refine ⟨by rw [u 53 (by omega)]; exact x1, u_at, ?_, ?_, ?_⟩
        · unfold rR; rw [u 62 (by omega), uf 30 (by omega)]; exact x3
        · unfold rR; rw [u 63 (by omega), uf 31 (by omega)]; exact x4
        · unfold rR; rw [u 64 (by omega), uf 32 (by omega)]; exact x5
      refine wp_bind (r_tell (B := bInn (xB (yE a)) (inx (binns (xB (yE a))) k)) (bw := -1) (df := qdf (yL a)) (mu := 0) (mc := -1) hA.1 (A_BOK hA) (bw' := fun _ => false) (bwf0 hA) rl rb (by rw [uf 40 (by omega)]; exact g40) (by rw [uf 41 (by omega)]; exact g41) (by rw [uf 42 (by omega)]; exact g42) (by rw [uf 43 (by omega)]; exact g43)) ?_
      rintro ⟨y, I2⟩ ⟨F2', y1, _, _⟩
      have F2 : Fr LT (upd4 I1 8 0 0 29 (inx (binns (xB (yE a))) k)) I2 := F2'
      have y1' : y = nI (nbq a k) := y1
      have e8 : I2 8 0 = upd4 I1 8 0 0 29 (inx (binns (xB (yE a))) k) 8 0 := F2.g (by simp [LT])
      refine wp_bnd ?_
      have e29 : I2 8 0 0 29 = inx (binns (xB (yE a))) k := by rw [e8]; exact u_at
      show wp (if s.2 < y then _ else _) _
      rw [show (y, I2).snd = I2 from rfl, e29, inx_b (by omega) qb, y1', nI_1]
      have F3 : Fr LT8 I1 (upd4 I2 8 0 0 29 (binns (xB (yE a)))) := ((FL.sub (by simp [LT8])).tr (F2.sub (fun x hx => by simp [LT8, hx]))).tr (Fr.up (by simp [LT8]))
      have k3 : ∀ f, upd4 I2 8 0 0 29 (binns (xB (yE a))) 8 0 0 f = I1 8 0 0 f := by
        intro f
        by_cases e : f = 29
        · rw [e, u_at, ei]
        · rw [u_if, if_neg (fun q => e q.2), e8, uf f e]
      have hR3 : sR (upd4 I2 8 0 0 29 (binns (xB (yE a)))) a := ⟨GR_t g0 F3 (fun f _ _ => k3 f), by rw [k3]; exact g2, by rw [k3]; exact g40, by rw [k3]; exact g41, by rw [k3]; exact g42, by rw [k3]; exact g43⟩
      have go : ∀ s', s' = bst (fun t => bt (binns (xB (yE a))) t) (nbq a) k s → wp (f_X8_burn_31 g (upd4 I2 8 0 0 29 (binns (xB (yE a)))) v1 s'.1 s'.2 (nI (k + 1))) (fun w => w.1 = (if v1 = 0 then (bfl (fun t => bt (binns (xB (yE a))) t) (nbq a) k (m + 1) s).1 else (bfl (fun t => bt (binns (xB (yE a))) t) (nbq a) k (m + 1) s).2) ∧ sR w.2 a ∧ Kr I1 w.2) := by
        intro s' hs'
        rw [bfl, ← hs']
        refine wp_mono (ih g (k + 1) _ s' (by omega) (by omega) hR3) ?_
        rintro w ⟨w1, w2, w3⟩
        exact ⟨w1, w2, (LT8_kr F3).tr w3⟩
      refine wp_ite (fun q2 => go (nI k, nI (nbq a k)) ?_) (fun q2 => go s ?_)
      · unfold bst
        rw [if_pos qb, if_pos q2]
      · unfold bst
        rw [if_pos qb, if_neg q2]
theorem p_burn (h : G I P) (v1 : Int32) : Pr (f_L_burn I P O D n v1) (fun I => f_X8_burn I v1) n := by
  obtain ⟨l, a, hA, hC, hR⟩ := h
  have hT9 := hA.1.1
  have S := B_SOK hA.1 (A_BOK hA).1 (fun _ => false)
  refine L_q hA hC hR ?_
  unfold f_X7_burn
  refine wp_thb (q_what I v1 (n := 1) (by omega)) (fun b1 => ?_) (fun b1 => Or.inr ⟨rfl, ?_⟩)
  · have hC0 := hC
    obtain ⟨⟨p1, p2, p3⟩, c1, _⟩ := hC
    rw [p1]
    refine wp_gd (dlt p2) (wp_bind (q_load1 hA hC0) ?_)
    rintro ⟨I1, P1⟩ ⟨hC1, hT1, F1, hP1⟩
    refine wp_bind (q_hear (I := I1) (P := P1) hA.1 (A_BOK hA) S hC1.2.1 hC1.2.2.1.1 hT1.2.2.2 hT1.1 hT1.2.1) ?_
    rintro I2 ⟨F2, hh2⟩
    have F2' : Fr (TRI l) I1 I2 := F2.sub (by simp [TRI, LH])
    have hC2 := GC_tr (P' := P1) hC1 F2' (fun _ _ _ => rfl)
    have hT2 : ldT I2 P1 l a (tw0 (yL a)) (dy0 (yL a) (xB (yE a))) := ⟨hT1.1, hT1.2.1, by rw [F2.g (c := 1) (z := 1) (by simp [LH])]; exact hT1.2.2.1, cJ_fr hT1.2.2.2 F2 (by simp [LH])⟩
    refine wp_mono (c_burn_34 hA (v1 := v1) (lT (yL a)) FU 0 I2 (-1, -1) (by omega) (by unfold FU; omega) hC2 hT2 hh2) ?_
    rintro y ⟨I3, y1, hC3, F3⟩
    refine Or.inl ⟨_, I3, P1, y1, hC3, Kc_tr ((Fr.tr F1 F2').tr F3), fun hR3 => ?_⟩
    unfold f_X8_burn
    refine wp_bnd ?_
    rw [n_1, ifw (by omega)]
    refine wp_pos b1 (wp_bind (R_set hA hR3) ?_)
    rintro I4 ⟨h4, k4⟩
    refine wp_mono (r_burn_31 hA (v1 := v1) (lT (yL a)) FU 0 I4 (-1, -1) (by omega) (by unfold FU; omega) h4) ?_
    rintro w ⟨w1, w2, w3⟩
    exact ⟨w1, w2.2.1, w2.1, k4.tr w3⟩
  · unfold f_X8_burn
    refine wp_bnd ?_
    rw [n_1, ifw (by omega)]
    exact wp_neg (by rw [b1]; decide) (r_fail1 hR 1)
end
