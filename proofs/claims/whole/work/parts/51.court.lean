/-! the class's court: what it reads -/
/-- stops: how many judges, stops, towns and days -/
def cJ (I : Mem) (P : PMem) (z : Nat) (J : Nat) (ns : Nat → Nat) (tw : Nat → Nat → Nat) (dy : Nat → Nat → Int32) : Prop :=
  P 1 z 0 0 < 2 ∧ I 3 (P 1 z 0 0) 0 7 = nI J ∧ J ≤ 5 ∧ (∀ j, j < J → I 36 (P 1 z 0 0) 0 j = nI (ns j) ∧ ns j ≤ 7) ∧
  ∀ j, j < J → ∀ i, i < ns j → I 12 z j i = nI (tw j i) ∧ I 14 z j i = dy j i ∧ tw j i < 9
def tOn (n : Nat) (tw : Nat → Nat) (dy : Nat → Int32) (v : Int32) : Int32 :=
  let i := ff (fun i => decide (dy i = v)) 0 n
  if i < n then nI (tw i) else -1
/-- rows of three: how many, and each -/
def cRw (I : Mem) (b : Nat) (n : Nat) (a1 a2 a3 : Nat → Int32) : Prop :=
  I 6 b 0 3 = nI n ∧ n ≤ rowsLen b ∧ ∀ k, k < n → I 44 b 0 k = a1 k ∧ I 45 b 0 k = a2 k ∧ I 46 b 0 k = a3 k
def isF (n : Nat) (a1 a2 a3 : Nat → Int32) (t d : Int32) : Bool :=
  ex (fun k => decide (a1 k = t) && decide (a2 k ≤ d) && decide (d ≤ a3 k)) 0 n
theorem rl {b : Nat} : rowsLen b ≤ 40 := by unfold rowsLen; split <;> (try split) <;> omega
section
variable {I : Mem} {P : PMem} {z J : Nat} {ns : Nat → Nat} {tw : Nat → Nat → Nat} {dy : Nat → Nat → Int32} {n : Nat} {a1 a2 a3 : Nat → Int32}
theorem c_townOn_2 (h : cJ I P z J ns tw dy) {j : Nat} (hj : j < J) (v : Int32) : ∀ m fu k, k + m = ns j → m < fu →
    f_X1_townOn_2 I P z fu (nI j) v (nI k) = some (let i := ff (fun i => decide (dy j i = v)) k m; if i < ns j then nI (tw j i) else -1) := by
  obtain ⟨hP, hJ, hJ5, hns, hst⟩ := h
  obtain ⟨hn, hn7⟩ := hns j hj
  intro m
  induction m with
  | zero =>
    intro fu k hk hf
    obtain ⟨g, rfl⟩ := Nat.exists_eq_succ_of_ne_zero (by omega : fu ≠ 0)
    have hk' : k = ns j := by omega
    simp (disch := omega) [gd, bnd, inb_n, nI_clamp, nI_leI, nI_ltI, nI_eq, nI_1, if_true, if_false, decide_true, ite_true, ite_false, f_X1_townOn_2, hP, hn, ff, hk']
  | succ m ih =>
    intro fu k hk hf
    obtain ⟨g, rfl⟩ := Nat.exists_eq_succ_of_ne_zero (by omega : fu ≠ 0)
    obtain ⟨ht, hd, ht9⟩ := hst j hj k (by omega)
    have hk' : ¬ ns j ≤ k := by omega
    have hk2 : k < ns j := by omega
    have ih' := ih g (k + 1) (by omega) (by omega)
    simp (disch := omega) only [gd, bnd, inb_n, nI_clamp, nI_leI, nI_ltI, nI_eq, nI_1, if_true, if_false, decide_true, ite_true, ite_false, f_X1_townOn_2, hP, hn, hk', ht, hd, ih', ff]
    by_cases e : dy j k = v
    · simp [e, hk2]
    · simp [e]
theorem c_townOn (h : cJ I P z J ns tw dy) {j : Nat} (hj : j < J) (v : Int32) : f_X1_townOn I P z (nI j) v = some (tOn (ns j) (tw j) (dy j) v) := by
  have h7 := (h.2.2.2.1 j hj).2
  exact c_townOn_2 h hj v (ns j) FU 0 (by omega) (by unfold FU; omega)
theorem c_isFeast_11 {b : Nat} (h : cRw I b n a1 a2 a3) (t d : Int32) : ∀ m fu k, k + m = n → m < fu →
    f_X1_isFeast_11 I P z fu t d b (nI k) = some (bI (ex (fun k => decide (a1 k = t) && decide (a2 k ≤ d) && decide (d ≤ a3 k)) k m)) := by
  obtain ⟨hn, hn7, hr⟩ := h
  have h40 := rl (b := b)
  intro m
  induction m with
  | zero =>
    intro fu k hk hf
    obtain ⟨g, rfl⟩ := Nat.exists_eq_succ_of_ne_zero (by omega : fu ≠ 0)
    have hk' : k = n := by omega
    simp (disch := omega) [gd, bnd, inb_n, nI_clamp, nI_leI, nI_ltI, nI_eq, nI_1, if_true, if_false, decide_true, ite_true, ite_false, f_X1_isFeast_11, hn, hk', ex, bI]
  | succ m ih =>
    intro fu k hk hf
    obtain ⟨g, rfl⟩ := Nat.exists_eq_succ_of_ne_zero (by omega : fu ≠ 0)
    obtain ⟨r1, r2, r3⟩ := hr k (by omega)
    have hk' : ¬ n ≤ k := by omega
    have ih' := ih g (k + 1) (by omega) (by omega)
    simp (disch := omega) only [gd, bnd, inb_n, nI_clamp, nI_leI, nI_ltI, nI_eq, nI_1, if_true, if_false, decide_true, ite_true, ite_false, f_X1_isFeast_11, hn, hk', r1, r2, r3, ih', ex]
    by_cases e : a1 k = t
    · by_cases e2 : d < a2 k
      · have : ¬ a2 k ≤ d := (fa_of_lt e2).2.1
        simp [e, e2, this]
      · have q2 := fa_of_nlt e2
        by_cases e3 : a3 k < d
        · have : ¬ d ≤ a3 k := (fa_of_lt e3).2.1
          simp [e, e2, e3, this]
        · have q3 := fa_of_nlt e3
          simp [e, e2, e3, q2, q3, bI]
    · simp [e]
theorem c_isFeast (hb : P 1 z 0 1 = 0) (h : cRw I 1 n a1 a2 a3) (t d : Int32) : f_X1_isFeast I P z t d = some (bI (isF n a1 a2 a3 t d)) := by
  have h40 := rl (b := 1)
  have := c_isFeast_11 (P := P) (z := z) h t d n FU 0 (by omega) (by have := h.2.1; unfold FU; omega)
  unfold f_X1_isFeast isF
  rw [hb]
  exact (gd_t (by decide)).trans this
theorem c_before_5 (h : cJ I P z J ns tw dy) {c : Nat} (hc : c < 6) {sd : Nat → Int32} (hs : ∀ j, j < J → I 16 z c j = sd j) (d : Int32) : ∀ m fu k a, k + m = J → m < fu →
    f_X1_howManySaidBefore_5 I P z fu (nI c) d (nI a) (nI k) = some (nI (a + cn (fun j => decide (sd j ≠ -1) && decide (sd j < d)) k m)) := by
  obtain ⟨hP, hJ, hJ5, hns, hst⟩ := h
  intro m
  induction m with
  | zero =>
    intro fu k a hk hf
    obtain ⟨g, rfl⟩ := Nat.exists_eq_succ_of_ne_zero (by omega : fu ≠ 0)
    have hk' : k = J := by omega
    simp (disch := omega) [gd, bnd, inb_n, nI_clamp, nI_leI, nI_ltI, nI_eq, nI_1, if_true, if_false, decide_true, ite_true, ite_false, f_X1_howManySaidBefore_5, hP, hJ, hk', cn]
  | succ m ih =>
    intro fu k a hk hf
    obtain ⟨g, rfl⟩ := Nat.exists_eq_succ_of_ne_zero (by omega : fu ≠ 0)
    have hk' : ¬ J ≤ k := by omega
    have h1 := hs k (by omega)
    have ih0 := ih g (k + 1) a (by omega) (by omega)
    have ih1 := ih g (k + 1) (a + 1) (by omega) (by omega)
    simp (disch := omega) only [gd, bnd, inb_n, nI_clamp, nI_leI, nI_ltI, nI_eq, nI_1, if_true, if_false, decide_true, ite_true, ite_false, f_X1_howManySaidBefore_5, hP, hJ, hk', h1, ih0, ih1, cn]
    by_cases e : sd k = -1
    · simp [e]
    · by_cases e2 : d ≤ sd k
      · have : ¬ sd k < d := by rw [fa_lt]; rw [fa_le] at e2; omega
        simp [e, e2, this]
      · have := fa_of_nle e2
        simp [e, e2, this, Nat.add_assoc]
theorem c_before (h : cJ I P z J ns tw dy) {c : Nat} (hc : c < 6) {sd : Nat → Int32} (hs : ∀ j, j < J → I 16 z c j = sd j) (d : Int32) :
    f_X1_howManySaidBefore I P z (nI c) d = some (nI (cn (fun j => decide (sd j ≠ -1) && decide (sd j < d)) 0 J)) := by
  have h5 := h.2.2.1
  have := c_before_5 h hc hs d J FU 0 0 (by omega) (by unfold FU; omega)
  rw [Nat.zero_add] at this
  exact this
end
