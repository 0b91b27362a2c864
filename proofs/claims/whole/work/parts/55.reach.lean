/-! the class's court: whom news reaches -/
def lim (dy : Nat → Int32) (n : Nat) (last : Int32) : Nat := ff (fun i => decide (last < dy i)) 0 n
def cx (nw : Nat → Nat → Int32) (tw : Nat → Nat) (dy : Nat → Int32) (n : Nat) (last : Int32) (t : Nat) (d : Int32) : Bool :=
  ex (fun i => decide (nw t (tw i) ≠ -1) && decide (d + nw t (tw i) ≤ dy i)) 0 (lim dy n last)
def cNd (I : Mem) (P : PMem) (z T : Nat) (nw : Nat → Nat → Int32) : Prop := T ≤ 9 ∧ ∀ a, a < T → ∀ b, b < T → I 32 (P 1 z 0 0) a b = nw a b
def twT (J : Nat) (ns : Nat → Nat) (tw : Nat → Nat → Nat) (T : Nat) : Prop := ∀ j, j < J → ∀ i, i < ns j → tw j i < T
def rcJ (H : Nat → Nat → Nat → Bool) (nw : Nat → Nat → Int32) (J : Nat) (ns : Nat → Nat) (tw : Nat → Nat → Nat) (dy : Nat → Nat → Int32) (c j q : Nat) : Bool :=
  decide (ff (H c q) 0 (ns q) < ns q) && (decide (sdA H dy c q (ns q) < sdA H dy c j (ns j)) &&
    cx nw (tw j) (dy j) (ns j) (sdA H dy c j (ns j)) (tw q (ff (H c q) 0 (ns q))) (dy q (ff (H c q) 0 (ns q))))
def rcW (H : Nat → Nat → Nat → Bool) (nw : Nat → Nat → Int32) (ns : Nat → Nat) (tw : Nat → Nat → Nat) (dy : Nat → Nat → Int32) (c j : Nat) (t : Nat) (d : Int32) : Bool :=
  cx nw (tw j) (dy j) (ns j) (sdA H dy c j (ns j)) t d
def rch (H : Nat → Nat → Nat → Bool) (nw : Nat → Nat → Int32) (J : Nat) (ns : Nat → Nat) (tw : Nat → Nat → Nat) (dy : Nat → Nat → Int32) (n : Nat) (w1 : Nat → Int32) (wt : Nat → Nat) (w3 : Nat → Int32) (c j : Nat) : Bool :=
  ex (rcJ H nw J ns tw dy c j) 0 J || ex (fun k => decide (w1 k = nI c) && rcW H nw ns tw dy c j (wt k) (w3 k)) 0 n
section
variable {I : Mem} {P : PMem} {z J : Nat} {ns : Nat → Nat} {tw : Nat → Nat → Nat} {dy : Nat → Nat → Int32} {T C : Nat} {nw : Nat → Nat → Int32}
variable {H : Nat → Nat → Nat → Bool} {G : Nat → Nat → Bool}
theorem c_across_13 (h : cJ I P z J ns tw dy) (hN : cNd I P z T nw) (hT : twT J ns tw T) {j t : Nat} (hj : j < J) (ht : t < T) (d last : Int32) : ∀ m fu k, k + m = ns j → m < fu →
    f_X1_comesAcross_13 I P z fu (nI j) (nI t) d last (nI k) = some (bI (ex (fun i => decide (nw t (tw j i) ≠ -1) && decide (d + nw t (tw j i) ≤ dy j i)) k (ff (fun i => decide (last < dy j i)) k m - k))) := by
  obtain ⟨hP, hJ, hJ5, hns, hst⟩ := h
  obtain ⟨hn, hn7⟩ := hns j hj
  have hT9 := hN.1
  intro m
  induction m with
  | zero =>
    intro fu k hk hf
    obtain ⟨g, rfl⟩ := Nat.exists_eq_succ_of_ne_zero (by omega : fu ≠ 0)
    have hk' : k = ns j := by omega
    simp (disch := omega) [gd, bnd, inb_n, nI_clamp, nI_leI, nI_ltI, nI_eq, nI_1, if_true, if_false, decide_true, ite_true, ite_false, f_X1_comesAcross_13, hP, hn, hk', ff, ex, bI]
  | succ m ih =>
    intro fu k hk hf
    obtain ⟨g, rfl⟩ := Nat.exists_eq_succ_of_ne_zero (by omega : fu ≠ 0)
    have hk' : ¬ ns j ≤ k := by omega
    obtain ⟨e12, e14, _⟩ := hst j hj k (by omega)
    have htk := hT j hj k (by omega)
    have e32 := hN.2 t ht _ htk
    have ih' := ih g (k + 1) (by omega) (by omega)
    simp (disch := omega) only [gd, bnd, inb_n, nI_clamp, nI_leI, nI_ltI, nI_eq, nI_1, if_true, if_false, decide_true, ite_true, ite_false, f_X1_comesAcross_13, hP, hn, hk', e12, e14, e32, ih', ff]
    by_cases e : last < dy j k
    · simp [e, ex, bI]
    · have b := ff_b (fun i => decide (last < dy j i)) m (k + 1)
      have s : ff (fun i => decide (last < dy j i)) (k + 1) m - k = (ff (fun i => decide (last < dy j i)) (k + 1) m - (k + 1)) + 1 := by omega
      simp only [e, if_false, decide_false, Bool.false_eq_true, s, ex]
      by_cases e2 : nw t (tw j k) = -1
      · simp [e2]
      · by_cases e3 : dy j k < d + nw t (tw j k)
        · have : ¬ d + nw t (tw j k) ≤ dy j k := (fa_of_lt e3).2.1
          simp [e2, e3, this]
        · have := fa_of_nlt e3
          simp [e2, e3, this, bI]
theorem c_across (h : cJ I P z J ns tw dy) (hN : cNd I P z T nw) (hT : twT J ns tw T) {c j t : Nat} (hc : c < 6) (hj : j < J) (ht : t < T) (d : Int32) {last : Int32} (hl : I 16 z c j = last) :
    f_X1_comesAcross I P z (nI c) (nI j) (nI t) d = some (bI (cx nw (tw j) (dy j) (ns j) last t d)) := by
  have h5 := h.2.2.1
  have h7 := (h.2.2.2.1 j hj).2
  unfold f_X1_comesAcross cx lim
  rw [gd_t (inb_n hc), gd_t (inb_n (by omega)), bnd_e, nI_clamp (by omega), nI_clamp (by omega), hl]
  exact c_across_13 h hN hT hj ht d last (ns j) FU 0 (by omega) (by unfold FU; omega)
theorem c_byWord_6 (h : cJ I P z J ns tw dy) (hN : cNd I P z T nw) (hT : twT J ns tw T) {c t : Nat} (hc : c < 6) (ht : t < T) (d : Int32) (hS' : ∀ j, j < J → I 16 z c j = sdA H dy c j (ns j)) : ∀ m fu k a, k + m = J → m < fu →
    f_X1_reachedByWord_6 I P z fu (nI c) (nI t) d a (nI k) = some (bs (fun j => rcW H nw ns tw dy c j t d) k m a) := by
  have ⟨hP, hJ, hJ5, hns, hst⟩ := h
  intro m
  induction m with
  | zero =>
    intro fu k a hk hf
    obtain ⟨g, rfl⟩ := Nat.exists_eq_succ_of_ne_zero (by omega : fu ≠ 0)
    have hk' : k = J := by omega
    simp (disch := omega) [gd, bnd, inb_n, nI_clamp, nI_leI, nI_ltI, nI_eq, nI_1, if_true, if_false, decide_true, ite_true, ite_false, f_X1_reachedByWord_6, hP, hJ, hk', bs]
  | succ m ih =>
    intro fu k a hk hf
    obtain ⟨g, rfl⟩ := Nat.exists_eq_succ_of_ne_zero (by omega : fu ≠ 0)
    have hk' : ¬ J ≤ k := by omega
    have e := c_across h hN hT hc (by omega : k < J) ht d (hS' k (by omega))
    have ih0 := ih g (k + 1) a (by omega) (by omega)
    have ih1 := ih g (k + 1) (a ||| jshl 1 (nI k)) (by omega) (by omega)
    simp (disch := omega) only [gd, bnd, inb_n, nI_clamp, nI_leI, nI_ltI, nI_eq, nI_1, if_true, if_false, decide_true, ite_true, ite_false, f_X1_reachedByWord_6, hP, hJ, hk', e, Option.bind_some, bI_0, ih0, ih1, bs]
    by_cases hx : cx nw (tw k) (dy k) (ns k) (sdA H dy c k (ns k)) t d = true
    · have : rcW H nw ns tw dy c k t d = true := hx
      simp [hx, this]
    · have : ¬ rcW H nw ns tw dy c k t d = true := hx
      simp [hx, this]
theorem c_byWord (h : cJ I P z J ns tw dy) (hN : cNd I P z T nw) (hT : twT J ns tw T) {c t : Nat} (hc : c < 6) (ht : t < T) (d : Int32) (hS' : ∀ j, j < J → I 16 z c j = sdA H dy c j (ns j)) :
    f_X1_reachedByWord I P z (nI c) (nI t) d = some (bs (fun j => rcW H nw ns tw dy c j t d) 0 J 0) := by
  have h5 := h.2.2.1
  exact c_byWord_6 h hN hT hc ht d hS' J FU 0 0 (by omega) (by unfold FU; omega)
theorem c_any_119 (h : cJ I P z J ns tw dy) (hN : cNd I P z T nw) (hT : twT J ns tw T) {c n : Nat} {w1 w3 : Nat → Int32} {wt : Nat → Nat} (hW : cRw I 0 n w1 (fun k => nI (wt k)) w3) (hwt : ∀ k, k < n → wt k < T) (hc : c < 6) (hS' : ∀ j, j < J → I 16 z c j = sdA H dy c j (ns j)) : ∀ m fu k a, k + m = n → m < fu →
    wp (f_X1_reachedByAny_119 I P z fu (nI c) a 0 (nI k)) (fun r => ∀ i, i < 32 → bt r i = (bt a i || (decide (i < J) && ex (fun k => decide (w1 k = nI c) && rcW H nw ns tw dy c i (wt k) (w3 k)) k m))) := by
  have ⟨hP, hJ, hJ5, hns, hst⟩ := h
  have h40 := rl (b := 0)
  obtain ⟨hn, hn4, hr⟩ := hW
  intro m
  induction m with
  | zero =>
    intro fu k a hk hf
    obtain ⟨g, rfl⟩ := Nat.exists_eq_succ_of_ne_zero (by omega : fu ≠ 0)
    unfold f_X1_reachedByAny_119
    rw [hn]
    refine wp_pos (by rw [nI_leI (by omega) (by omega)]; omega) (wp_some ?_)
    intro i _; simp [ex]
  | succ m ih =>
    intro fu k a hk hf
    obtain ⟨g, rfl⟩ := Nat.exists_eq_succ_of_ne_zero (by omega : fu ≠ 0)
    obtain ⟨r1, r2, r3⟩ := hr k (by omega)
    unfold f_X1_reachedByAny_119
    rw [hn]
    refine wp_neg (by rw [nI_leI (by omega) (by omega)]; omega) (wp_gd (inb_n (by omega) (by omega)) ?_)
    rw [nI_clamp (by omega), r1, r2, r3, nI_1]
    refine wp_ite (fun q => ?_) (fun q => ?_)
    · refine wp_bindE _ (c_byWord h hN hT hc (hwt k (by omega)) _ hS') (wp_bnd ?_)
      refine wp_mono (ih g (k + 1) _ (by omega) (by omega)) ?_
      intro r hr i hi
      rw [hr i hi, b_or, bt_bs _ _ _ _ _ (by omega) hi, b_0, ex]
      simp only [Nat.zero_add, Nat.zero_le, decide_true, Bool.true_and, Bool.false_or, q]
      cases bt a i <;> cases decide (i < J) <;> simp
    · refine wp_mono (ih g (k + 1) _ (by omega) (by omega)) ?_
      intro r hr i hi
      rw [hr i hi, ex]
      simp [q]
theorem c_any_18 (h : cJ I P z J ns tw dy) (hd : Days dy J ns) (hN : cNd I P z T nw) (hT : twT J ns tw T) {c j : Nat} (hc : c < C) (hC : C ≤ 6) (hj : j < J) (hS' : hS I z C J H tw dy G ns) {k4 : Int32 → Int32 → Int32 → Option Int32} {Q : Int32 → Prop} : ∀ m fu k a, k + m = J → m < fu →
    (∀ a', (∀ i, i < 32 → bt a' i = (bt a i || (decide (i = j) && ex (rcJ H nw J ns tw dy c j) k m))) → wp (k4 (nI c) a' (nI (j + 1))) Q) →
    wp (f_X1_reachedByAny_18 k4 I P z fu (nI c) a (nI j) (nI k)) Q := by
  have ⟨hP, hJ, hJ5, hns, hst⟩ := h
  intro m
  induction m with
  | zero =>
    intro fu k a hk hf hK
    obtain ⟨g, rfl⟩ := Nat.exists_eq_succ_of_ne_zero (by omega : fu ≠ 0)
    unfold f_X1_reachedByAny_18
    rw [hJ, nI_1]
    refine wp_gd (dlt hP) (wp_pos (by rw [nI_leI (by omega) (by omega)]; omega) (hK a ?_))
    intro i _; simp [ex]
  | succ m ih =>
    intro fu k a hk hf hK
    obtain ⟨g, rfl⟩ := Nat.exists_eq_succ_of_ne_zero (by omega : fu ≠ 0)
    have hkJ : k < J := by omega
    obtain ⟨s1, s2, s3⟩ := hS' c hc k hkJ
    obtain ⟨t1, t2, t3⟩ := hS' c hc j hj
    have nop : rcJ H nw J ns tw dy c j k = false → wp (f_X1_reachedByAny_18 k4 I P z g (nI c) a (nI j) (nI k + 1)) Q := by
      intro q
      rw [nI_1]
      refine ih g (k + 1) a (by omega) (by omega) (fun a' ha => hK a' (fun i hi => ?_))
      rw [ha i hi, ex, q, Bool.false_or]
    unfold f_X1_reachedByAny_18
    rw [hJ]
    refine wp_gd (dlt hP) (wp_neg (by rw [nI_leI (by omega) (by omega)]; omega) (wp_gd (inb_n (by omega)) (wp_gd (inb_n (by omega)) ?_)))
    rw [nI_clamp (by omega), nI_clamp (by omega), nI_clamp (by omega), s1, t1, s2]
    refine wp_ite (fun q => ?_) (fun q => wp_gd (inb_n (by omega)) (wp_ite (fun q2 => ?_) (fun q2 => ?_)))
    · refine nop ?_
      have := (sdA_no hd hkJ (Nat.le_refl _)).mp q
      unfold rcJ; simp [this]
    · refine nop ?_
      have : ¬ sdA H dy c k (ns k) < sdA H dy c j (ns j) := by rw [fa_lt]; rw [fa_le] at q2; omega
      unfold rcJ; simp [this]
    · have hk1 : ff (H c k) 0 (ns k) < ns k := by
        by_cases e : ff (H c k) 0 (ns k) < ns k
        · exact e
        · exact absurd ((sdA_no hd hkJ (Nat.le_refl _)).mpr e) q
      have e1 : stA H tw c k (ns k) = nI (tw k (ff (H c k) 0 (ns k))) := if_pos hk1
      have e2 : sdA H dy c k (ns k) = dy k (ff (H c k) 0 (ns k)) := if_pos hk1
      rw [e1]
      refine wp_bindE _ (c_across h hN hT (by omega) hj (hT k hkJ _ hk1) _ t1) ?_
      have hlt : sdA H dy c k (ns k) < sdA H dy c j (ns j) := fa_of_nle q2
      refine wp_ite (fun q3 => ?_) (fun q3 => wp_bnd ?_)
      · refine nop ?_
        have := bI_0.mp q3
        rw [e2] at this
        unfold rcJ; simp [this]
      · rw [nI_1]
        refine ih g (k + 1) _ (by omega) (by omega) (fun a' ha => hK a' (fun i hi => ?_))
        have q4 : cx nw (tw j) (dy j) (ns j) (sdA H dy c j (ns j)) (tw k (ff (H c k) 0 (ns k))) (dy k (ff (H c k) 0 (ns k))) = true := by
          rw [e2] at q3
          cases e : cx nw (tw j) (dy j) (ns j) (sdA H dy c j (ns j)) (tw k (ff (H c k) 0 (ns k))) (dy k (ff (H c k) 0 (ns k)))
          · exact absurd (bI_0.mpr e) q3
          · rfl
        have q5 : rcJ H nw J ns tw dy c j k = true := by unfold rcJ; simp [hk1, hlt, q4]
        rw [ha i hi, ex, q5, b_or, bt_1 (by omega) hi]
        cases bt a i <;> cases decide (i = j) <;> simp
theorem c_any_4 (h : cJ I P z J ns tw dy) (hb : P 1 z 0 1 = 0) (hd : Days dy J ns) (hN : cNd I P z T nw) (hT : twT J ns tw T) {c n : Nat} {w1 w3 : Nat → Int32} {wt : Nat → Nat} (hW : cRw I 0 n w1 (fun k => nI (wt k)) w3) (hwt : ∀ k, k < n → wt k < T) (hc : c < C) (hC : C ≤ 6) (hS' : hS I z C J H tw dy G ns) : ∀ m fu k a, k + m = J → m < fu →
    (∀ i, i < 32 → bt a i = (decide (i < k) && ex (rcJ H nw J ns tw dy c i) 0 J)) →
    wp (f_X1_reachedByAny_4 I P z fu (nI c) a (nI k)) (fun r => r = bs (rch H nw J ns tw dy n w1 wt w3 c) 0 J 0) := by
  have ⟨hP, hJ, hJ5, hns, hst⟩ := h
  have h40 := rl (b := 0)
  intro m
  induction m with
  | zero =>
    intro fu k a hk hf ha
    obtain ⟨g, rfl⟩ := Nat.exists_eq_succ_of_ne_zero (by omega : fu ≠ 0)
    have hk' : k = J := by omega
    subst hk'
    unfold f_X1_reachedByAny_4
    rw [hJ, hb]
    refine wp_gd (dlt hP) (wp_pos (by rw [nI_leI (by omega) (by omega)]; omega) (wp_gd (by decide) ?_))
    refine wp_mono (c_any_119 h hN hT hW hwt (by omega) (fun j hj => (hS' c hc j hj).1) n FU 0 a (by omega) (by have := hW.2.1; unfold FU; omega)) ?_
    intro r hr
    apply b_ext
    intro i hi
    rw [hr i hi, ha i hi, bt_bs _ _ _ _ _ (by omega) hi, b_0]
    unfold rch
    simp only [Nat.zero_add, Nat.zero_le, decide_true, Bool.true_and, Bool.false_or]
    cases decide (i < k) <;> simp
  | succ m ih =>
    intro fu k a hk hf ha
    obtain ⟨g, rfl⟩ := Nat.exists_eq_succ_of_ne_zero (by omega : fu ≠ 0)
    unfold f_X1_reachedByAny_4
    rw [hJ]
    refine wp_gd (dlt hP) (wp_neg (by rw [nI_leI (by omega) (by omega)]; omega) ?_)
    refine c_any_18 h hd hN hT hc hC (by omega) hS' J FU 0 a (by omega) (by unfold FU; omega) (fun a' ha' => ih g (k + 1) a' (by omega) (by omega) (fun i hi => ?_))
    rw [ha' i hi, ha i hi]
    by_cases e : i = k
    · subst e
      rw [decide_eq_false (Nat.lt_irrefl i), decide_eq_true (rfl : i = i), decide_eq_true (Nat.lt_succ_self i)]; simp
    · by_cases e2 : i < k
      · rw [decide_eq_true e2, decide_eq_false e, decide_eq_true (by omega : i < k + 1)]; simp
      · rw [decide_eq_false e2, decide_eq_false e, decide_eq_false (by omega : ¬ i < k + 1)]; simp
theorem c_any (h : cJ I P z J ns tw dy) (hb : P 1 z 0 1 = 0) (hd : Days dy J ns) (hN : cNd I P z T nw) (hT : twT J ns tw T) {c n : Nat} {w1 w3 : Nat → Int32} {wt : Nat → Nat} (hW : cRw I 0 n w1 (fun k => nI (wt k)) w3) (hwt : ∀ k, k < n → wt k < T) (hc : c < C) (hC : C ≤ 6) (hS' : hS I z C J H tw dy G ns) :
    f_X1_reachedByAny I P z (nI c) = some (bs (rch H nw J ns tw dy n w1 wt w3 c) 0 J 0) := by
  have h5 := h.2.2.1
  exact wp_eq.mp (c_any_4 h hb hd hN hT hW hwt hc hC hS' J FU 0 0 (by omega) (by unfold FU; omega) (fun i hi => by rw [b_0]; simp))
end
