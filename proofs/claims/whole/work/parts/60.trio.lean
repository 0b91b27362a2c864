/-! three who make one guilty: in closed form; the class's court -/
def b3 (a b c : Nat) : Int32 := (jshl 1 (nI a) ||| jshl 1 (nI b)) ||| jshl 1 (nI c)
def d3 (sd : Nat → Int32) (a b c : Nat) : Int32 := jmax (sd a) (jmax (sd b) (sd c))
def apt (mt d : Int32) : Bool := decide (mt = -1) || !decide (mt ≤ d)
def ok3 (gj : Nat → Bool) (st sd : Nat → Int32) (mt : Nat → Nat → Int32) (a b c : Nat) : Bool :=
  (gj a && (gj b && gj c)) && ((!decide (st a = st b) && (!decide (st a = st c) && !decide (st b = st c))) &&
    (apt (mt a b) (d3 sd a b c) && (apt (mt a c) (d3 sd a b c) && apt (mt b c) (d3 sd a b c))))
section
variable (ok : Nat → Nat → Nat → Bool) (dd : Nat → Nat → Nat → Int32)
def stp (a b c : Nat) (s : Int32 × Int32) : Int32 × Int32 := if (ok a b c && (decide (s.1 = 0) || decide (dd a b c < s.2))) = true then (b3 a b c, dd a b c) else s
def tr3 (a b : Nat) : Nat → Nat → Int32 × Int32 → Int32 × Int32
  | _, 0, s => s
  | k, m + 1, s => tr3 a b (k + 1) m (stp ok dd a b k s)
def tr2 (a : Nat) : Nat → Nat → Int32 × Int32 → Int32 × Int32
  | _, 0, s => s
  | k, m + 1, s => tr2 a (k + 1) m (tr3 ok dd a k (k + 1) m s)
def tr1 : Nat → Nat → Int32 × Int32 → Int32 × Int32
  | _, 0, s => s
  | k, m + 1, s => tr1 (k + 1) m (tr2 ok dd k (k + 1) m s)
end
def tri (J : Nat) (gj : Nat → Bool) (st sd : Nat → Int32) (mt : Nat → Nat → Int32) : Int32 × Int32 := tr1 (ok3 gj st sd mt) (d3 sd) 0 J (0, -1)
theorem bt_b3 {a b c i : Nat} (ha : a < 32) (hb : b < 32) (hc : c < 32) (hi : i < 32) : bt (b3 a b c) i = (decide (i = a) || decide (i = b) || decide (i = c)) := by
  unfold b3
  rw [b_or, b_or, bt_1 ha hi, bt_1 hb hi, bt_1 hc hi]
theorem b3_in {a b c : Nat} (ha : a < 32) (hb : b < 32) (hc : c < 32) {w : Int32} : (b3 a b c &&& (w ^^^ (-1))) = 0 ↔ (bt w a && (bt w b && bt w c)) = true := by
  constructor
  · intro h
    have k : ∀ i, i < 32 → bt (b3 a b c) i = true → bt w i = true := by
      intro i hi hb
      have := congrArg (fun x => bt x i) h
      simp only [b_and, bt_not hi, b_0, hb, Bool.true_and] at this
      cases e : bt w i
      · rw [e] at this; cases this
      · rfl
    rw [k a ha (by rw [bt_b3 ha hb hc ha]; simp), k b hb (by rw [bt_b3 ha hb hc hb]; simp), k c hc (by rw [bt_b3 ha hb hc hc]; simp)]; rfl
  · intro h
    simp only [Bool.and_eq_true] at h
    apply b_ext
    intro i hi
    rw [b_and, bt_not hi, b_0, bt_b3 ha hb hc hi]
    by_cases e1 : i = a
    · rw [e1, h.1]; simp
    · by_cases e2 : i = b
      · rw [e2, h.2.1]; simp
      · by_cases e3 : i = c
        · rw [e3, h.2.2]; simp
        · simp [e1, e2, e3]
theorem b3_ne {a b c : Nat} (ha : a < 32) (hb : b < 32) (hc : c < 32) : b3 a b c ≠ 0 := by
  intro h
  have := congrArg (fun x => bt x a) h
  simp only [bt_b3 ha hb hc ha, b_0] at this
  simp at this
section
variable {I : Mem} {P : PMem} {z J : Nat} {ns : Nat → Nat} {tw : Nat → Nat → Nat} {dy : Nat → Nat → Int32}
variable {st sd : Nat → Int32} {mt : Nat → Nat → Int32} {c : Nat} {w : Int32}
def cT (I : Mem) (z J c : Nat) (st sd : Nat → Int32) (mt : Nat → Nat → Int32) : Prop :=
  c < 6 ∧ (∀ j, j < J → I 16 z c j = sd j ∧ I 18 z c j = st j) ∧ ∀ a b, a < J → b < J → a ≠ b → I 23 z a b = mt a b
theorem c_apart (h : cT I z J c st sd mt) (hJ5 : J ≤ 5) {a b : Nat} (ha : a < J) (hb : b < J) (hab : a ≠ b) (d : Int32) : f_X1_areApart I z (nI a) (nI b) d = some (bI (apt (mt a b) d)) := by
  have e := h.2.2 a b ha hb hab
  simp (disch := omega) only [gd, bnd, inb_n, nI_clamp, nI_leI, nI_ltI, nI_eq, nI_1, if_true, if_false, decide_true, ite_true, ite_false, f_X1_areApart, e]
  unfold apt
  by_cases q : mt a b = -1
  · simp [q, bI]
  · by_cases q2 : mt a b ≤ d
    · simp [q, q2, bI]
    · simp [q, q2, bI]
theorem c_towns (h : cT I z J c st sd mt) (hJ5 : J ≤ 5) {a b d : Nat} (ha : a < J) (hb : b < J) (hd : d < J) : f_X1_areInThreeTowns I z (nI c) (nI a) (nI b) (nI d) = some (bI (!decide (st a = st b) && (!decide (st a = st d) && !decide (st b = st d)))) := by
  have hc := h.1
  have e1 := (h.2.1 a ha).2
  have e2 := (h.2.1 b hb).2
  have e3 := (h.2.1 d hd).2
  simp (disch := omega) only [gd, bnd, inb_n, nI_clamp, nI_leI, nI_ltI, nI_eq, nI_1, if_true, if_false, decide_true, ite_true, ite_false, f_X1_areInThreeTowns, e1, e2, e3]
  by_cases q : st a = st b
  · simp [q, bI]
  · by_cases q2 : st a = st d
    · simp [q, q2, bI]
    · by_cases q3 : st b = st d
      · simp [q2, q3, bI]
      · simp [q, q2, q3, bI]
theorem c_latest (h : cT I z J c st sd mt) (hJ5 : J ≤ 5) {a b d : Nat} (ha : a < J) (hb : b < J) (hd : d < J) : f_X1_latestDay I z (nI c) (nI a) (nI b) (nI d) = some (d3 sd a b d) := by
  have hc := h.1
  have e1 := (h.2.1 a ha).1
  have e2 := (h.2.1 b hb).1
  have e3 := (h.2.1 d hd).1
  simp (disch := omega) only [gd, bnd, inb_n, nI_clamp, nI_leI, nI_ltI, nI_eq, nI_1, if_true, if_false, decide_true, ite_true, ite_false, f_X1_latestDay, e1, e2, e3, d3]
theorem c_trio_71 (hJ' : cJ I P z J ns tw dy) (h : cT I z J c st sd mt) {a b : Nat} (hab : a < b) (hb : b < J) {k53 : Int32 → Int32 → Int32 → Int32 → Int32 → Int32 → Option Int32} : ∀ m fu k s, k + m = J → b < k → m < fu →
    f_X1_trioWith_71 k53 I P z fu (nI c) w s.1 s.2 (nI a) (nI b) (nI k) = (let s' := tr3 (ok3 (fun j => bt w j) st sd mt) (d3 sd) a b k m s; k53 (nI c) w s'.1 s'.2 (nI a) (nI (b + 1))) := by
  have ⟨hP, hJ, hJ5, hns, hst⟩ := hJ'
  intro m
  induction m with
  | zero =>
    intro fu k s hk hb' hf
    obtain ⟨g, rfl⟩ := Nat.exists_eq_succ_of_ne_zero (by omega : fu ≠ 0)
    have hk' : J ≤ k := by omega
    simp (disch := omega) only [gd, bnd, inb_n, nI_clamp, nI_leI, nI_ltI, nI_eq, nI_1, if_true, if_false, decide_true, ite_true, ite_false, f_X1_trioWith_71, hP, hJ, hk', tr3]
  | succ m ih =>
    intro fu k s hk hb' hf
    obtain ⟨g, rfl⟩ := Nat.exists_eq_succ_of_ne_zero (by omega : fu ≠ 0)
    have hk' : ¬ J ≤ k := by omega
    have e1 := c_latest h hJ5 (by omega : a < J) hb (by omega : k < J)
    have e2 := c_towns h hJ5 (by omega : a < J) hb (by omega : k < J)
    have e3 := c_apart h hJ5 (by omega : a < J) hb (by omega) (d3 sd a b k)
    have e4 := c_apart h hJ5 (by omega : a < J) (by omega : k < J) (by omega) (d3 sd a b k)
    have e5 := c_apart h hJ5 hb (by omega : k < J) (by omega) (d3 sd a b k)
    have ih0 := ih g (k + 1) s (by omega) (by omega) (by omega)
    have ih1 := ih g (k + 1) (b3 a b k, d3 sd a b k) (by omega) (by omega) (by omega)
    have h134 : (bt w a && (bt w b && bt w k)) = true → (decide (s.1 = 0) || decide (d3 sd a b k < s.2)) = true → f_X1_trioWith_134 (f_X1_trioWith_71 k53 I P z g) I P z (nI c) w s.1 s.2 (nI a) (nI b) (nI k) (b3 a b k) (d3 sd a b k) = (let s' := tr3 (ok3 (fun j => bt w j) st sd mt) (d3 sd) a b k (m + 1) s; k53 (nI c) w s'.1 s'.2 (nI a) (nI (b + 1))) := by
      intro h1 h2
      simp only [f_X1_trioWith_134, e2, e3, e4, e5, Option.bind_some, bI_0, nI_1, ih0, ih1, tr3, stp, ok3, h1, h2, Bool.true_and, Bool.and_true]
      generalize (!decide (st a = st b) && (!decide (st a = st k) && !decide (st b = st k))) = x1
      generalize apt (mt a b) (d3 sd a b k) = x2
      generalize apt (mt a k) (d3 sd a b k) = x3
      generalize apt (mt b k) (d3 sd a b k) = x4
      cases x1 <;> cases x2 <;> cases x3 <;> cases x4 <;> simp
    have hb3 : ((jshl 1 (nI a) ||| jshl 1 (nI b)) ||| jshl 1 (nI k)) = b3 a b k := rfl
    simp (disch := omega) only [gd, bnd, inb_n, nI_clamp, nI_leI, nI_ltI, nI_eq, nI_1, if_true, if_false, decide_true, ite_true, ite_false, f_X1_trioWith_71, hP, hJ, hk', e1, Option.bind_some, hb3, b3_in (show a < 32 by omega) (show b < 32 by omega) (show k < 32 by omega), ih0]
    have nostep : (ok3 (fun j => bt w j) st sd mt a b k && (decide (s.1 = 0) || decide (d3 sd a b k < s.2))) = false → tr3 (ok3 (fun j => bt w j) st sd mt) (d3 sd) a b k (m + 1) s = tr3 (ok3 (fun j => bt w j) st sd mt) (d3 sd) a b (k + 1) m s := by
      intro q
      rw [tr3, stp, if_neg (by rw [q]; decide)]
    by_cases q1 : (bt w a && (bt w b && bt w k)) = true
    · rw [if_pos q1]
      by_cases q2 : s.1 = 0
      · rw [if_pos q2]; exact h134 q1 (by simp [q2])
      · rw [if_neg q2]
        by_cases q3 : s.2 ≤ d3 sd a b k
        · rw [if_pos q3, nostep]
          have : ¬ d3 sd a b k < s.2 := fun h => (fa_of_lt h).2.1 q3
          simp [q2, this]
        · rw [if_neg q3]; exact h134 q1 (by simp [fa_of_nle q3])
    · rw [if_neg q1, nostep]
      unfold ok3
      rw [Bool.eq_false_iff.mpr q1]; simp
theorem c_trio_53 (hJ' : cJ I P z J ns tw dy) (h : cT I z J c st sd mt) {a : Nat} (ha : a < J) {k35 : Int32 → Int32 → Int32 → Int32 → Int32 → Option Int32} : ∀ m fu k s, k + m = J → a < k → m < fu →
    f_X1_trioWith_53 k35 I P z fu (nI c) w s.1 s.2 (nI a) (nI k) = (let s' := tr2 (ok3 (fun j => bt w j) st sd mt) (d3 sd) a k m s; k35 (nI c) w s'.1 s'.2 (nI (a + 1))) := by
  have ⟨hP, hJ, hJ5, hns, hst⟩ := hJ'
  intro m
  induction m with
  | zero =>
    intro fu k s hk hb' hf
    obtain ⟨g, rfl⟩ := Nat.exists_eq_succ_of_ne_zero (by omega : fu ≠ 0)
    have hk' : J ≤ k := by omega
    simp (disch := omega) only [gd, bnd, inb_n, nI_clamp, nI_leI, nI_ltI, nI_eq, nI_1, if_true, if_false, decide_true, ite_true, ite_false, f_X1_trioWith_53, hP, hJ, hk', tr2]
  | succ m ih =>
    intro fu k s hk hb' hf
    obtain ⟨g, rfl⟩ := Nat.exists_eq_succ_of_ne_zero (by omega : fu ≠ 0)
    have hk' : ¬ J ≤ k := by omega
    have e := c_trio_71 (w := w) hJ' h hb' (by omega) (k53 := f_X1_trioWith_53 k35 I P z g) m FU (k + 1) s (by omega) (by omega) (by unfold FU; omega)
    have ih0 := ih g (k + 1) (tr3 (ok3 (fun j => bt w j) st sd mt) (d3 sd) a k (k + 1) m s) (by omega) (by omega) (by omega)
    simp (disch := omega) only [gd, bnd, inb_n, nI_clamp, nI_leI, nI_ltI, nI_eq, nI_1, if_true, if_false, decide_true, ite_true, ite_false, f_X1_trioWith_53, hP, hJ, hk', e, ih0, tr2]
theorem c_trio_35 (hJ' : cJ I P z J ns tw dy) (h : cT I z J c st sd mt) : ∀ m fu k s, k + m = J → m < fu →
    f_X1_trioWith_35 I P z fu (nI c) w s.1 s.2 (nI k) = some (tr1 (ok3 (fun j => bt w j) st sd mt) (d3 sd) k m s).1 := by
  have ⟨hP, hJ, hJ5, hns, hst⟩ := hJ'
  intro m
  induction m with
  | zero =>
    intro fu k s hk hf
    obtain ⟨g, rfl⟩ := Nat.exists_eq_succ_of_ne_zero (by omega : fu ≠ 0)
    have hk' : J ≤ k := by omega
    simp (disch := omega) only [gd, bnd, inb_n, nI_clamp, nI_leI, nI_ltI, nI_eq, nI_1, if_true, if_false, decide_true, ite_true, ite_false, f_X1_trioWith_35, hP, hJ, hk', tr1]
  | succ m ih =>
    intro fu k s hk hf
    obtain ⟨g, rfl⟩ := Nat.exists_eq_succ_of_ne_zero (by omega : fu ≠ 0)
    have hk' : ¬ J ≤ k := by omega
    have e := c_trio_53 (w := w) hJ' h (by omega : k < J) (k35 := f_X1_trioWith_35 I P z g) m FU (k + 1) s (by omega) (by omega) (by unfold FU; omega)
    have ih0 := ih g (k + 1) (tr2 (ok3 (fun j => bt w j) st sd mt) (d3 sd) k (k + 1) m s) (by omega) (by omega)
    simp (disch := omega) only [gd, bnd, inb_n, nI_clamp, nI_leI, nI_ltI, nI_eq, nI_1, if_true, if_false, decide_true, ite_true, ite_false, f_X1_trioWith_35, hP, hJ, hk', e, ih0, tr1]
end
