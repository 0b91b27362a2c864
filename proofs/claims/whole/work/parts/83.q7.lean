/-! pairs of calls: mercy, game -/
def pc (s : Nat) : Nat := s % 2 + s / 2 % 2 + s / 4 % 2 + s / 8 % 2 + s / 16 % 2
theorem pc_5 (s : Nat) : pc s ≤ 5 := by unfold pc; omega
theorem bc_n {I : Mem} {s : Nat} (hs : s < 32) : f_J6_bitCount_0f7a4 I (nI s) = some (nI (pc s)) := by
  have : ∀ s, s < 32 → f_J6_bitCount_0f7a4 (fun _ _ _ _ => 0) (nI s) = some (nI (pc s)) := by decide +kernel
  exact this s hs
theorem bo_n4 {I : Mem} : ∀ fu s a, s < 32 → pc s < fu → f_X8_bitsOf_4 I fu (nI a) (nI s) = some (nI (a + pc s))
  | 0, _, _, _, h => absurd h (Nat.not_lt_zero _)
  | fu + 1, s, a, hs, hf => by
    unfold f_X8_bitsOf_4
    by_cases e : s = 0
    · subst e; rfl
    · have k1 : ∀ s, s < 32 → s ≠ 0 → nI s &&& (nI s - 1) = nI (s &&& (s - 1)) := by decide +kernel
      have k2 : ∀ s, s < 32 → s ≠ 0 → pc s = pc (s &&& (s - 1)) + 1 := by decide +kernel
      have k3 : ∀ s, s < 32 → s &&& (s - 1) < 32 := by decide +kernel
      have e2 := k2 s hs e
      rw [if_neg (nI_ne0 (by omega) (by omega)), bnd_e, k1 s hs e, nI_1, bo_n4 fu _ (a + 1) (k3 s hs) (by omega), e2]
      congr 2; omega
theorem bo_n {I : Mem} {s : Nat} (hs : s < 32) : f_X8_bitsOf I (nI s) = some (nI (pc s)) := by
  have := bo_n4 (I := I) FU s 0 hs (by have := pc_5 s; unfold FU; omega)
  rw [Nat.zero_add] at this
  exact this
theorem shJ {J : Nat} (h : J ≤ 5) : jshl 1 (nI J) = nI (2 ^ J) := by
  have : ∀ J, J < 6 → jshl 1 (nI J) = nI (2 ^ J) := by decide +kernel
  exact this J (by omega)
theorem p2J {J : Nat} (h : J ≤ 5) : 2 ^ J ≤ 32 := by
  have : ∀ J, J < 6 → 2 ^ J ≤ 32 := by decide
  exact this J (by omega)
def pcx (b : Nat) : Nat := if b = 64 then 6 else pc b
def oI (b : Nat) : Int32 := if b = 64 then -1 else nI b
def mst (tz : Nat → Bool) (df : Int32) (k b : Nat) : Nat := if (decide (pc k < pcx b) && (decide (nI k &&& df = 0) && tz k)) = true then k else b
def mr (tz : Nat → Bool) (df : Int32) : Nat → Nat → Nat → Nat
  | _, 0, b => b
  | k, m + 1, b => mr tz df (k + 1) m (mst tz df k b)
theorem mst_b {tz : Nat → Bool} {df : Int32} {k b : Nat} (hb : b = 64 ∨ b < 32) (hk : k < 32) : mst tz df k b = 64 ∨ mst tz df k b < 32 := by
  unfold mst; split
  · exact Or.inr hk
  · exact hb
section
variable {I : Mem} {P : PMem} {l : Nat} {a : Abs} {O : Nat → Int64} {D : Bool} {n : Nat}
def tzq (a : Abs) (c : Nat) (k : Nat) : Bool := decide ((qtr (yL a) (xB (yE a)) (tw0 (yL a)) (dy0 (yL a) (xB (yE a))) (binns (xB (yE a))) (nI k) (qdf (yL a)) c).1 = 0)
theorem c_mercy_19 (hA : AOK a) {I1 : Mem} {P1 : PMem} (hC1 : GC I1 P1 l a) (hst : stl I1 P1 0 l (yL a) (xB (yE a))) {c : Nat} (hc : c < lC (yL a)) : ∀ m fu k b, k + m = 2 ^ lJ (yL a) → m < fu → (b = 64 ∨ b < 32) →
    f_X7_mercy_19 fu I1 P1 (nI c) (oI b) (nI (pcx b)) (nI k) = some (Sum.inl (oI (mr (tzq a c) (qdf (yL a)) k m b), I1, P1)) := by
  have hC6 := hA.1.2.2.1
  have hJ5 := hA.1.2.1
  have h32 := p2J hJ5
  obtain ⟨⟨p1, p2, p3⟩, c1, _⟩ := hC1
  obtain ⟨s1, s2, s3, s4, s5, s6⟩ := hst
  have h7 := c1.1.1
  intro m
  induction m with
  | zero =>
    intro fu k b hk hf hb
    obtain ⟨g, rfl⟩ := Nat.exists_eq_succ_of_ne_zero (by omega : fu ≠ 0)
    unfold f_X7_mercy_19
    rw [p1, gd_t (dlt p2), h7, shJ hJ5, if_pos (by rw [nI_leI (by omega) (by omega)]; omega)]; rfl
  | succ m ih =>
    intro fu k b hk hf hb
    obtain ⟨g, rfl⟩ := Nat.exists_eq_succ_of_ne_zero (by omega : fu ≠ 0)
    have hk32 : k < 32 := by omega
    have e := c_trioWith (I := I1) (P := P1) s4 s5 hC6 hc (nI k) (qdf (yL a))
    have hpb : pcx b ≤ 6 := by unfold pcx; split; omega; have := pc_5 b; omega
    have hpk := pc_5 k
    have ih0 := ih g (k + 1) b (by omega) (by omega) hb
    have ih1 := ih g (k + 1) k (by omega) (by omega) (Or.inr hk32)
    have ok : oI k = nI k := if_neg (by omega)
    have px : pcx k = pc k := if_neg (by omega)
    rw [ok, px] at ih1
    unfold f_X7_mercy_19
    rw [p1, gd_t (dlt p2), h7, shJ hJ5, if_neg (by rw [nI_leI (by omega) (by omega)]; omega), bc_n hk32, Option.bind_some, s3, nI_1, ih0, e, Option.bind_some, ih1, mr, mst]
    have ed : (trv (lJ (yL a)) (qtl (yL a) (xB (yE a)) (tw0 (yL a)) (dy0 (yL a) (xB (yE a)))) (qsd (yL a) (xB (yE a)) (tw0 (yL a)) (dy0 (yL a) (xB (yE a)))) (qst (yL a) (xB (yE a)) (tw0 (yL a)) (dy0 (yL a) (xB (yE a)))) (qgv (yL a) (xB (yE a)) (tw0 (yL a)) (dy0 (yL a) (xB (yE a)))) (qrc (yL a) (xB (yE a)) (tw0 (yL a)) (dy0 (yL a) (xB (yE a)))) (qmt (yL a) (xB (yE a)) (tw0 (yL a)) (dy0 (yL a) (xB (yE a))) (binns (xB (yE a)))) (nI k) (qdf (yL a)) c).1 = (qtr (yL a) (xB (yE a)) (tw0 (yL a)) (dy0 (yL a) (xB (yE a))) (binns (xB (yE a))) (nI k) (qdf (yL a)) c).1 := rfl
    rw [ed]
    by_cases q1 : pc k < pcx b
    · rw [if_neg (by rw [nI_leI (by omega) (by omega)]; omega), decide_eq_true q1, Bool.true_and]
      by_cases q2 : nI k &&& qdf (yL a) = 0
      · rw [if_pos q2, decide_eq_true q2, Bool.true_and]
        by_cases q3 : (qtr (yL a) (xB (yE a)) (tw0 (yL a)) (dy0 (yL a) (xB (yE a))) (binns (xB (yE a))) (nI k) (qdf (yL a)) c).1 = 0
        · rw [if_pos q3, if_pos (show tzq a c k = true from decide_eq_true q3)]
        · rw [if_neg q3, if_neg (show ¬ tzq a c k = true from fun h => q3 (of_decide_eq_true h))]
      · rw [if_neg q2, decide_eq_false q2]; rfl
    · rw [if_pos (by rw [nI_leI (by omega) (by omega)]; omega), decide_eq_false q1]; rfl
/-- one case, judged anew -/
theorem r_jq {L : Land} {B : Ben} {tw : Nat → Nat → Nat} {dy : Nat → Nat → Int32} {mt : Nat → Nat → Int32} {df mu mc : Int32} {I3 : Mem} (hL : LOK L) (hB : BOK L B) (hS : SOK L tw dy) (rq : qRQ I3 L B tw dy mt df mu mc) {c : Nat} (hc : c < lC L) :
    wp (f_X8_judgeCase I3 (nI c)) (fun I4 => T8 I3 I4 ∧ qRQ I4 L B tw dy mt df mu mc ∧ (I4 75 0 0 c < 100000 ↔ ¬ (trv (lJ L) (qtl L B tw dy) (qsd L B tw dy) (qst L B tw dy) (qgv L B tw dy) (qrc L B tw dy) mt (more mu mc c) df c).1 = 0)) := by
  refine wp_mono (r_jc (q_okQ hL hB hS) hc rq) ?_
  rintro I4 ⟨F, _, _, j1, j2⟩
  refine ⟨T8.of F (by simp [LT]), rQ_fr rq F (by simp), ?_⟩
  rw [j2]
  have hJ5 := hL.2.1
  have ed : (trv (lJ L) (qtl L B tw dy) (qsd L B tw dy) (qst L B tw dy) (qgv L B tw dy) (rcV (lnw L) (lJ L) (lns L) tw dy (qtl L B tw dy) (qsd L B tw dy) (qsn L B tw dy) (bn B) (bw1 B) (bwt B) (bw3 B)) mt (more mu mc c) df c) = (trv (lJ L) (qtl L B tw dy) (qsd L B tw dy) (qst L B tw dy) (qgv L B tw dy) (qrc L B tw dy) mt (more mu mc c) df c) := rfl
  rw [ed]
  rcases trv_b (gv := qgv L B tw dy) (mt := mt) (more' := more mu mc c) (df := df) (rc := qrc L B tw dy) (q_sdW (B := B) hS) hc with e | e | e
  · rw [if_pos e.1]
    exact ⟨fun q => absurd q (by decide), fun q => absurd e.1 q⟩
  · rw [if_neg e.1]
    refine ⟨fun _ => e.1, fun _ => ?_⟩
    rw [n_1e5, fa_lt, nI_toInt (by omega)]; omega
  · omega
theorem r_mercy_33 (hA : AOK a) {c : Nat} (hc : c < lC (yL a)) : ∀ m fu k b I3 mu, k + m = 2 ^ lJ (yL a) → m < fu → (b = 64 ∨ b < 32) → qRQ I3 (yL a) (xB (yE a)) (tw0 (yL a)) (dy0 (yL a) (xB (yE a))) (qmt (yL a) (xB (yE a)) (tw0 (yL a)) (dy0 (yL a) (xB (yE a))) (binns (xB (yE a)))) (qdf (yL a)) mu (nI c) →
    wp (f_X8_mercy_33 fu I3 (nI c) (oI b) (nI k)) (fun w => w.1 = oI (mr (tzq a c) (qdf (yL a)) k m b) ∧ T8 I3 w.2) := by
  have hC6 := hA.1.2.2.1
  have hJ5 := hA.1.2.1
  have h32 := p2J hJ5
  have S := B_SOK hA.1 (A_BOK hA).1 (fun _ => false)
  intro m
  induction m with
  | zero =>
    intro fu k b I3 mu hk hf hb rq
    obtain ⟨g, rfl⟩ := Nat.exists_eq_succ_of_ne_zero (by omega : fu ≠ 0)
    unfold f_X8_mercy_33
    rw [rq.1.1, shJ hJ5]
    exact wp_pos (by rw [nI_leI (by omega) (by omega)]; omega) (wp_some ⟨rfl, T8.rfl⟩)
  | succ m ih =>
    intro fu k b I3 mu hk hf hb rq
    obtain ⟨g, rfl⟩ := Nat.exists_eq_succ_of_ne_zero (by omega : fu ≠ 0)
    have hk32 : k < 32 := by omega
    have hpb : pcx b ≤ 6 := by unfold pcx; split; omega; have := pc_5 b; omega
    have hpk := pc_5 k
    have e41 : I3 8 0 0 41 = qdf (yL a) := rq.2.2.2.2.2.1
    have ok : oI k = nI k := if_neg (by omega)
    have skip : mst (tzq a c) (qdf (yL a)) k b = b → wp (f_X8_mercy_33 g I3 (nI c) (oI b) (nI k + 1)) (fun w => w.1 = oI (mr (tzq a c) (qdf (yL a)) k (m + 1) b) ∧ T8 I3 w.2) := by
      intro q
      rw [nI_1, mr, q]
      exact ih g (k + 1) b I3 mu (by omega) (by omega) hb rq
    have h73 : pc k < pcx b → nI k &&& qdf (yL a) = 0 → wp (f_X8_mercy_73 (f_X8_mercy_33 g) I3 (nI c) (oI b) (nI k)) (fun w => w.1 = oI (mr (tzq a c) (qdf (yL a)) k (m + 1) b) ∧ T8 I3 w.2) := by
      intro q1 q2
      unfold f_X8_mercy_73
      refine wp_bnd ?_
      have rq2 := rQ_up rq 42 (nI k) (by omega)
      refine wp_bind (r_jq hA.1 (A_BOK hA) S rq2 hc) ?_
      rintro I4 ⟨t4, rq4, d4⟩
      have t34 : T8 I3 I4 := (T8.up (by omega)).tr t4
      refine wp_gd (inb_n (by omega)) ?_
      rw [nI_clamp (by omega), nI_1]
      have em : more (if (42 : Nat) = 42 then nI k else mu) (if (42 : Nat) = 43 then nI k else nI c) c = nI k := if_pos rfl
      rw [em] at d4
      have rq5 : qRQ I4 (yL a) (xB (yE a)) (tw0 (yL a)) (dy0 (yL a) (xB (yE a))) (qmt (yL a) (xB (yE a)) (tw0 (yL a)) (dy0 (yL a) (xB (yE a))) (binns (xB (yE a)))) (qdf (yL a)) (nI k) (nI c) := rq4
      have d5 : I4 75 0 0 c < 100000 ↔ ¬ (qtr (yL a) (xB (yE a)) (tw0 (yL a)) (dy0 (yL a) (xB (yE a))) (binns (xB (yE a))) (nI k) (qdf (yL a)) c).1 = 0 := d4
      rw [mr, mst, decide_eq_true q1, decide_eq_true q2, Bool.true_and, Bool.true_and]
      refine wp_ite (fun q => ?_) (fun q => ?_)
      · rw [if_neg (show ¬ tzq a c k = true from fun h => d5.mp q (of_decide_eq_true h))]
        refine wp_mono (ih g (k + 1) b I4 (nI k) (by omega) (by omega) hb rq5) ?_
        rintro w ⟨w1, w2⟩
        exact ⟨w1, t34.tr w2⟩
      · have q3 : (qtr (yL a) (xB (yE a)) (tw0 (yL a)) (dy0 (yL a) (xB (yE a))) (binns (xB (yE a))) (nI k) (qdf (yL a)) c).1 = 0 := Decidable.not_not.mp (fun h => q (d5.mpr h))
        rw [if_pos (show tzq a c k = true from decide_eq_true q3), ← ok]
        refine wp_mono (ih g (k + 1) k I4 (nI k) (by omega) (by omega) (Or.inr hk32) rq5) ?_
        rintro w ⟨w1, w2⟩
        exact ⟨w1, t34.tr w2⟩
    unfold f_X8_mercy_33
    rw [rq.1.1, shJ hJ5, e41]
    refine wp_neg (by rw [nI_leI (by omega) (by omega)]; omega) (wp_ite (fun q2 => ?_) (fun q2 => skip (by unfold mst; simp [q2])))
    refine wp_ite (fun q => ?_) (fun q => ?_)
    · have hb64 : b = 64 := by
        by_cases e : b = 64
        · exact e
        · exfalso
          have : oI b = nI b := if_neg e
          rw [this] at q
          exact nI_ni (by omega) q
      have h6 : pcx b = 6 := by rw [hb64]; rfl
      exact h73 (by omega) q2
    · have hb64 : b ≠ 64 := by
        intro e
        rw [e] at q
        exact q rfl
      have ob : oI b = nI b := if_neg hb64
      have pb : pcx b = pc b := if_neg hb64
      refine wp_bindE _ (bo_n hk32) ?_
      conv => arg 1; arg 1; rw [ob]
      refine wp_bindE _ (bo_n (hb.resolve_left hb64)) ?_
      refine wp_ite (fun q3 => ?_) (fun q3 => skip ?_)
      · rw [nI_ltI (by omega) (by omega)] at q3
        exact h73 (by omega) q2
      · rw [nI_ltI (by omega) (by omega)] at q3
        unfold mst
        rw [decide_eq_false (by omega)]; rfl
theorem p_mercy (h : G I P) (v1 : Int32) : Pr (f_L_mercy I P O D n v1) (fun I => f_X8_mercy I v1) n := by
  obtain ⟨l, a, hA, hC, hR⟩ := h
  have hC6 := hA.1.2.2.1
  have hJ5 := hA.1.2.1
  have h32 := p2J hJ5
  obtain ⟨hR0, hK0⟩ := r_code hR 0
  refine L_q hA hC hR ?_
  unfold f_X7_mercy
  refine wp_thb (q_case hA hC v1) (fun b1 => ?_) (fun b1 => Or.inr ⟨rfl, ?_⟩)
  · obtain ⟨c, hc, rfl⟩ := inR_t (by omega) b1
    refine Q_court hA hC ?_
    intro I1 P1 hC1 hst
    refine wp_of (c_mercy_19 hA hC1 hst hc (2 ^ lJ (yL a)) FU 0 64 (by omega) (by unfold FU; omega) (Or.inl rfl)) ?_
    refine ⟨_, I1, P1, rfl, hC1, Kc.rfl, fun hR1 => ?_⟩
    obtain ⟨hR10, _⟩ := r_code hR1 0
    unfold f_X8_mercy
    refine wp_bnd (wp_bindE _ (r_case hA hR10 _) ?_)
    rw [b1]
    refine wp_neg (by decide) (R_tell2 hA hR1 ?_)
    rintro ⟨u, I3⟩ _ rq rj _
    have rq2 := rQ_up (I3 := I3) rq 43 (nI c) (by omega)
    refine wp_bnd ?_
    refine wp_mono (r_mercy_33 hA hc (2 ^ lJ (yL a)) FU 0 64 _ 0 (by omega) (by unfold FU; omega) (Or.inl rfl) rq2) ?_
    rintro w ⟨w1, w2⟩
    exact ⟨w1, (T8.up (by omega)).tr w2⟩
  · unfold f_X8_mercy
    refine wp_bnd (wp_bindE _ (r_case hA hR0 v1) ?_)
    rw [b1]
    exact wp_pos rfl (r_fail1 hR 1)
end
