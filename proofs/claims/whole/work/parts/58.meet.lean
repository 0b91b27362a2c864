/-! meetings, in closed form; the class's court -/
def ix (dy : Nat → Int32) (n : Nat) (x : Int32) : Nat := ff (fun i => decide (dy i = x)) 0 n
def mv (p : Int32 → Bool) : Int32 := if ff (fun x => p (nI x)) 0 115 < 115 then nI (ff (fun x => p (nI x)) 0 115) else -1
def innM (inns : Int32) (ns : Nat → Nat) (tw : Nat → Nat → Nat) (dy : Nat → Nat → Int32) (a b : Nat) (x : Int32) : Bool :=
  decide (ix (dy a) (ns a) x < ns a) && (decide (ix (dy b) (ns b) x < ns b) && (decide (tw a (ix (dy a) (ns a) x) = tw b (ix (dy b) (ns b) x)) && bt inns (tw a (ix (dy a) (ns a) x))))
/-- within the water at that town -/
def wetA (rd : Nat → Nat → Int32) (t w : Nat) (wide : Int32) : Bool := decide (rd t w ≠ -1) && decide (rd t w ≤ wide)
def wetJ (rd : Nat → Nat → Int32) (ns : Nat → Nat) (tw : Nat → Nat → Nat) (dy : Nat → Nat → Int32) (w : Nat) (x wide : Int32) (j : Nat) : Bool :=
  decide (ix (dy j) (ns j) x < ns j) && wetA rd (tw j (ix (dy j) (ns j) x)) w wide
def floM (rd : Nat → Nat → Int32) (ns : Nat → Nat) (tw : Nat → Nat → Nat) (dy : Nat → Nat → Int32) (gt : Nat → Nat) (g2 g3 : Nat → Int32) (a b : Nat) (x : Int32) (k : Nat) : Bool :=
  decide (g2 k = x) && (wetJ rd ns tw dy (gt k) x (g3 k) a && wetJ rd ns tw dy (gt k) x (g3 k) b)
def mtg (inns : Int32) (rd : Nat → Nat → Int32) (ns : Nat → Nat) (tw : Nat → Nat → Nat) (dy : Nat → Nat → Int32) (n : Nat) (gt : Nat → Nat) (g2 g3 : Nat → Int32) (a b : Nat) (x : Int32) : Bool :=
  innM inns ns tw dy a b x || ex (floM rd ns tw dy gt g2 g3 a b x) 0 n
theorem mv_cong {p q : Int32 → Bool} (h : ∀ x, x < 115 → p (nI x) = q (nI x)) : mv p = mv q := by
  unfold mv
  rw [ff_cong (fun x _ hx => h x (by omega))]
theorem mv_or {p : Int32 → Bool} {d : Nat} (hd : d < 115) : mv (fun x => p x || decide (x = nI d)) =
    (if mv p = -1 then nI d else if mv p ≤ nI d then mv p else nI d) := by
  unfold mv
  have b := ff_b (fun x => p (nI x)) 115 0
  by_cases e : ff (fun x => p (nI x)) 0 115 < 115
  · rw [if_pos e, if_neg (nI_ni (by omega))]
    simp only [nI_leI (show ff (fun x => p (nI x)) 0 115 < 2 ^ 31 by omega) (show d < 2 ^ 31 by omega)]
    have y := ff_yes (fun x => p (nI x)) 115 0 (by omega)
    by_cases e2 : ff (fun x => p (nI x)) 0 115 ≤ d
    · have : ff (fun x => p (nI x) || decide (nI x = nI d)) 0 115 = ff (fun x => p (nI x)) 0 115 := by
        refine ff_is _ (Nat.zero_le _) (by omega) ?_ ?_
        · show (p (nI _) || decide _) = true
          rw [y]; rfl
        · intro i _ hi
          have := ff_no (fun x => p (nI x)) 115 0 i (Nat.zero_le _) hi
          show (p (nI i) || decide _) = false
          rw [this, decide_eq_false (by rw [nI_eq (by omega) (by omega)]; omega)]; rfl
      rw [this, if_pos e, if_pos e2]
    · have : ff (fun x => p (nI x) || decide (nI x = nI d)) 0 115 = d := by
        refine ff_is _ (Nat.zero_le _) (by omega) ?_ ?_
        · simp
        · intro i _ hi
          have := ff_no (fun x => p (nI x)) 115 0 i (Nat.zero_le _) (by omega)
          show (p (nI i) || decide _) = false
          rw [this, decide_eq_false (by rw [nI_eq (by omega) (by omega)]; omega)]; rfl
      rw [this, if_pos hd, if_neg e2]
  · rw [if_neg e, if_pos rfl]
    have : ff (fun x => p (nI x) || decide (nI x = nI d)) 0 115 = d := by
      refine ff_is _ (Nat.zero_le _) (by omega) ?_ ?_
      · simp
      · intro i _ hi
        have := ff_no (fun x => p (nI x)) 115 0 i (Nat.zero_le _) (by omega)
        show (p (nI i) || decide _) = false
        rw [this, decide_eq_false (by rw [nI_eq (by omega) (by omega)]; omega)]; rfl
    rw [this, if_pos hd]
theorem day_n {x : Int32} (h : 0 ≤ x.toInt ∧ x.toInt ≤ 114) : ∃ d, d < 115 ∧ x = nI d := by
  refine ⟨x.toInt.toNat, by omega, ?_⟩
  rw [fa_eq, nI_toInt (by omega)]; omega
theorem n_earlier {I : Mem} {p : Int32 → Bool} {d : Nat} (hd : d < 115) : f_X1_earlier I (mv p) (nI d) = some (mv (fun x => p x || decide (x = nI d))) := by
  rw [mv_or hd]
  unfold f_X1_earlier f_X1_earlier_10
  by_cases e : mv p = -1
  · rw [if_pos e, if_pos e, e]
    have : (-1 : Int32) < nI d := by rw [fa_lt, nI_toInt (by omega)]; have : (-1 : Int32).toInt = -1 := rfl; omega
    unfold jmax; rw [if_pos this]
  · rw [if_neg e, if_neg e, if_neg (nI_ni (by omega))]
    unfold jmin
    by_cases q : mv p ≤ nI d
    · rw [if_pos q, if_neg (fun h => (fa_of_lt h).2.1 q)]
    · rw [if_neg q, if_pos (fa_of_nle q)]
section
variable {P : PMem} {z J : Nat} {ns : Nat → Nat} {tw : Nat → Nat → Nat} {dy : Nat → Nat → Int32} {T : Nat} {rd : Nat → Nat → Int32}
theorem ix_at (hd : Days dy J ns) {j i : Nat} (hj : j < J) (hi : i < ns j) : ix (dy j) (ns j) (dy j i) = i := by
  refine ff_is _ (Nat.zero_le _) (by omega) (by simp) ?_
  intro i' _ h'
  have := hd.2 j i' i hj h' hi
  exact decide_eq_false (fun e => by rw [e] at this; omega)
theorem ix_day {j : Nat} {x : Int32} (h : ix (dy j) (ns j) x < ns j) : dy j (ix (dy j) (ns j) x) = x :=
  of_decide_eq_true (ff_yes (fun i => decide (dy j i = x)) (ns j) 0 (by rw [Nat.zero_add]; exact h))
/-- the first stop with a property of its day, and the first such day -/
theorem mv_first (hd : Days dy J ns) {a : Nat} (ha : a < J) {p : Int32 → Bool} (hp : ∀ x, p x = true → ix (dy a) (ns a) x < ns a) :
    mv p = (if ff (fun i => p (dy a i)) 0 (ns a) < ns a then dy a (ff (fun i => p (dy a i)) 0 (ns a)) else -1) := by
  unfold mv
  by_cases e : ff (fun i => p (dy a i)) 0 (ns a) < ns a
  · rw [if_pos e]
    have y := ff_yes (fun i => p (dy a i)) (ns a) 0 (by omega)
    obtain ⟨d, hd1, hd2⟩ := day_n (hd.1 a _ ha e)
    rw [hd2] at y ⊢
    have : ff (fun x => p (nI x)) 0 115 = d := by
      refine ff_is _ (Nat.zero_le _) (by omega) y ?_
      intro x _ hx
      by_cases q : p (nI x) = true
      · exfalso
        have h1 := hp _ q
        have h2 := ix_day h1
        by_cases q2 : ix (dy a) (ns a) (nI x) < ff (fun i => p (dy a i)) 0 (ns a)
        · have := ff_no (fun i => p (dy a i)) (ns a) 0 _ (Nat.zero_le _) q2
          rw [h2, q] at this; cases this
        · by_cases q3 : ix (dy a) (ns a) (nI x) = ff (fun i => p (dy a i)) 0 (ns a)
          · rw [q3, hd2, nI_eq (by omega) (by omega)] at h2; omega
          · have := hd.2 a _ _ ha (by omega : ff (fun i => p (dy a i)) 0 (ns a) < ix (dy a) (ns a) (nI x)) h1
            rw [h2, hd2, nI_toInt (by omega), nI_toInt (by omega)] at this; omega
      · exact Bool.eq_false_iff.mpr q
    rw [this, if_pos hd1]
  · rw [if_neg e]
    have : ff (fun x => p (nI x)) 0 115 = 0 + 115 := by
      refine ff_none _ ?_
      intro x _ hx
      by_cases q : p (nI x) = true
      · exfalso
        have h1 := hp _ q
        have h2 := ix_day h1
        have b := ff_b (fun i => p (dy a i)) (ns a) 0
        have := ff_no (fun i => p (dy a i)) (ns a) 0 _ (Nat.zero_le _) (by omega : ix (dy a) (ns a) (nI x) < ff (fun i => p (dy a i)) 0 (ns a))
        rw [h2, q] at this; cases this
      · exact Bool.eq_false_iff.mpr q
    rw [this, if_neg (by omega)]
theorem innM_symm {inns : Int32} {a b : Nat} {x : Int32} : innM inns ns tw dy a b x = innM inns ns tw dy b a x := by
  unfold innM
  by_cases e : tw a (ix (dy a) (ns a) x) = tw b (ix (dy b) (ns b) x)
  · rw [e]
    cases decide (ix (dy a) (ns a) x < ns a) <;> cases decide (ix (dy b) (ns b) x < ns b) <;> simp
  · rw [decide_eq_false e, decide_eq_false (fun h : tw b (ix (dy b) (ns b) x) = tw a (ix (dy a) (ns a) x) => e h.symm)]; simp
theorem floM_symm {gt : Nat → Nat} {g2 g3 : Nat → Int32} {a b : Nat} {x : Int32} {k : Nat} : floM rd ns tw dy gt g2 g3 a b x k = floM rd ns tw dy gt g2 g3 b a x k := by
  unfold floM
  rw [Bool.and_comm (wetJ rd ns tw dy (gt k) x (g3 k) a)]
theorem mtg_symm {inns : Int32} {n : Nat} {gt : Nat → Nat} {g2 g3 : Nat → Int32} {a b : Nat} {x : Int32} : mtg inns rd ns tw dy n gt g2 g3 a b x = mtg inns rd ns tw dy n gt g2 g3 b a x := by
  unfold mtg
  rw [innM_symm, ex_cong (fun k _ _ => floM_symm)]
theorem cJ_fr {I I' : Mem} {S : List (Nat × Nat)} (h : cJ I P z J ns tw dy) (F : Fr S I I') (hs' : ∀ c, c ∈ [3, 12, 14, 36] → ∀ z, ¬ (c, z) ∈ S) : cJ I' P z J ns tw dy := by
  unfold cJ at *
  rw [F.gc (hs' 3 (by decide)), F.gc (hs' 12 (by decide)), F.gc (hs' 14 (by decide)), F.gc (hs' 36 (by decide))]
  exact h
theorem tOn_eq {n : Nat} {tw : Nat → Nat} {dy : Nat → Int32} {x : Int32} : tOn n tw dy x = if ix dy n x < n then nI (tw (ix dy n x)) else -1 := rfl
theorem c_inn_3 {I : Mem} (h : cJ I P z J ns tw dy) {a b : Nat} (ha : a < J) (hb : b < J) (inns : Int32) : ∀ m fu k, k + m = ns a → m < fu →
    f_X1_firstInnDay_3 I P z fu (nI a) (nI b) inns (nI k) = some (let i := ff (fun i => bt inns (tw a i) && decide (tOn (ns b) (tw b) (dy b) (dy a i) = nI (tw a i))) k m; if i < ns a then dy a i else -1) := by
  have ⟨hP, hJ, hJ5, hns, hst⟩ := h
  obtain ⟨hn, hn7⟩ := hns a ha
  intro m
  induction m with
  | zero =>
    intro fu k hk hf
    obtain ⟨g, rfl⟩ := Nat.exists_eq_succ_of_ne_zero (by omega : fu ≠ 0)
    have hk' : k = ns a := by omega
    simp (disch := omega) [gd, bnd, inb_n, nI_clamp, nI_leI, nI_ltI, nI_eq, nI_1, if_true, if_false, decide_true, ite_true, ite_false, f_X1_firstInnDay_3, hP, hn, ff, hk']
  | succ m ih =>
    intro fu k hk hf
    obtain ⟨g, rfl⟩ := Nat.exists_eq_succ_of_ne_zero (by omega : fu ≠ 0)
    obtain ⟨e12, e14, ht9⟩ := hst a ha k (by omega)
    have hk' : ¬ ns a ≤ k := by omega
    have hk2 : k < ns a := by omega
    have ih' := ih g (k + 1) (by omega) (by omega)
    have hu := ush1 (x := inns) (j := tw a k) (by omega)
    have ht := c_townOn h hb (dy a k)
    simp (disch := omega) only [gd, bnd, inb_n, nI_clamp, nI_leI, nI_ltI, nI_eq, nI_1, if_true, if_false, decide_true, ite_true, ite_false, f_X1_firstInnDay_3, hP, hn, hk', e12, e14, ih', ff, hu, ht, Option.bind_some]
    by_cases e : bt inns (tw a k) = true
    · by_cases e2 : tOn (ns b) (tw b) (dy b) (dy a k) = nI (tw a k)
      · simp [e, e2, bI, hk2]
      · simp [e, e2, bI]
    · simp [e, bI]
theorem c_inn {I : Mem} (h : cJ I P z J ns tw dy) (hd : Days dy J ns) {a b : Nat} (ha : a < J) (hb : b < J) (inns : Int32) :
    f_X1_firstInnDay I P z (nI a) (nI b) inns = some (mv (innM inns ns tw dy a b)) := by
  have h7 := (h.2.2.2.1 a ha).2
  have := c_inn_3 h ha hb inns (ns a) FU 0 (by omega) (by unfold FU; omega)
  unfold f_X1_firstInnDay
  rw [n_0, this, mv_first hd ha (p := innM inns ns tw dy a b) (fun x hx => by unfold innM at hx; simp at hx; exact hx.1)]
  have hc : ff (fun i => bt inns (tw a i) && decide (tOn (ns b) (tw b) (dy b) (dy a i) = nI (tw a i))) 0 (ns a) = ff (fun i => innM inns ns tw dy a b (dy a i)) 0 (ns a) := by
    refine ff_cong fun i _ hi => ?_
    rw [Nat.zero_add] at hi
    have t9 := (h.2.2.2.2 a ha i hi).2.2
    unfold innM
    rw [ix_at hd ha hi, decide_eq_true hi, Bool.true_and, tOn_eq]
    by_cases e : ix (dy b) (ns b) (dy a i) < ns b
    · have u9 := (h.2.2.2.2 b hb _ e).2.2
      rw [if_pos e, decide_eq_true e, Bool.true_and, Bool.and_comm]
      congr 1
      by_cases q : tw a i = tw b (ix (dy b) (ns b) (dy a i))
      · rw [q]; simp
      · rw [decide_eq_false q, decide_eq_false (by rw [nI_eq (by omega) (by omega)]; exact fun h => q h.symm)]
    · rw [if_neg e, decide_eq_false e, Bool.false_and, decide_eq_false (fun h => nI_ni (by omega) h.symm), Bool.and_false]
  rw [hc]
end
