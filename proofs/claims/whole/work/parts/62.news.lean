/-! news, what is void, what was seen, the game: the class's court -/
def mw (p : Int32 → Bool) : Int32 := if ff (fun x => p (nI x)) 0 30000 < 30000 then nI (ff (fun x => p (nI x)) 0 30000) else -1
theorem mw_cong {p q : Int32 → Bool} (h : ∀ x, x < 30000 → p (nI x) = q (nI x)) : mw p = mw q := by
  unfold mw
  rw [ff_cong (fun x _ hx => h x (by omega))]
theorem mw_or {p : Int32 → Bool} {d : Nat} (hd : d < 30000) : mw (fun x => p x || decide (x = nI d)) =
    (if mw p = -1 then nI d else if mw p ≤ nI d then mw p else nI d) := by
  unfold mw
  have b := ff_b (fun x => p (nI x)) 30000 0
  by_cases e : ff (fun x => p (nI x)) 0 30000 < 30000
  · rw [if_pos e, if_neg (nI_ni (by omega))]
    simp only [nI_leI (show ff (fun x => p (nI x)) 0 30000 < 2 ^ 31 by omega) (show d < 2 ^ 31 by omega)]
    have y := ff_yes (fun x => p (nI x)) 30000 0 (by omega)
    by_cases e2 : ff (fun x => p (nI x)) 0 30000 ≤ d
    · have : ff (fun x => p (nI x) || decide (nI x = nI d)) 0 30000 = ff (fun x => p (nI x)) 0 30000 := by
        refine ff_is _ (Nat.zero_le _) (by omega) ?_ ?_
        · show (p (nI _) || decide _) = true
          rw [y]; rfl
        · intro i _ hi
          have := ff_no (fun x => p (nI x)) 30000 0 i (Nat.zero_le _) hi
          show (p (nI i) || decide _) = false
          rw [this, decide_eq_false (by rw [nI_eq (by omega) (by omega)]; omega)]; rfl
      rw [this, if_pos e, if_pos e2]
    · have : ff (fun x => p (nI x) || decide (nI x = nI d)) 0 30000 = d := by
        refine ff_is _ (Nat.zero_le _) (by omega) ?_ ?_
        · simp
        · intro i _ hi
          have := ff_no (fun x => p (nI x)) 30000 0 i (Nat.zero_le _) (by omega)
          show (p (nI i) || decide _) = false
          rw [this, decide_eq_false (by rw [nI_eq (by omega) (by omega)]; omega)]; rfl
      rw [this, if_pos hd, if_neg e2]
  · rw [if_neg e, if_pos rfl]
    have : ff (fun x => p (nI x) || decide (nI x = nI d)) 0 30000 = d := by
      refine ff_is _ (Nat.zero_le _) (by omega) ?_ ?_
      · simp
      · intro i _ hi
        have := ff_no (fun x => p (nI x)) 30000 0 i (Nat.zero_le _) (by omega)
        show (p (nI i) || decide _) = false
        rw [this, decide_eq_false (by rw [nI_eq (by omega) (by omega)]; omega)]; rfl
    rw [this, if_pos hd]
theorem w_earlier {I : Mem} {p : Int32 → Bool} {d : Nat} (hd : d < 30000) : f_X1_earlier I (mw p) (nI d) = some (mw (fun x => p x || decide (x = nI d))) := by
  rw [mw_or hd]
  unfold f_X1_earlier f_X1_earlier_10
  by_cases e : mw p = -1
  · rw [if_pos e, if_pos e, e]
    have : (-1 : Int32) < nI d := by rw [fa_lt, nI_toInt (by omega)]; have : (-1 : Int32).toInt = -1 := rfl; omega
    unfold jmax; rw [if_pos this]
  · rw [if_neg e, if_neg e, if_neg (nI_ni (by omega))]
    unfold jmin
    by_cases q : mw p ≤ nI d
    · rw [if_pos q, if_neg (fun h => (fa_of_lt h).2.1 q)]
    · rw [if_neg q, if_pos (fa_of_nle q)]

theorem w_earlier1 {I : Mem} {p : Int32 → Bool} : f_X1_earlier I (mw p) (-1) = some (mw p) := by
  unfold f_X1_earlier f_X1_earlier_10
  have h : jmax (mw p) (-1) = mw p := by
    unfold jmax
    by_cases e : ff (fun x => p (nI x)) 0 30000 < 30000
    · have e2 : mw p = nI (ff (fun x => p (nI x)) 0 30000) := if_pos e
      rw [if_neg]
      rw [e2, fa_lt, nI_toInt (by omega)]
      have : (-1 : Int32).toInt = -1 := rfl
      omega
    · have e2 : mw p = -1 := if_neg e
      rw [e2]; rfl
  rw [h]
  simp
def arv (nw : Nat → Nat → Int32) (t0 : Nat) (d : Int32) (t : Nat) (x : Int32) : Bool := decide (nw t0 t ≠ -1) && decide (x = d + nw t0 t)
section
variable {I : Mem} {P : PMem} {z J : Nat} {ns : Nat → Nat} {tw : Nat → Nat → Nat} {dy : Nat → Nat → Int32} {T : Nat} {nw : Nat → Nat → Int32}
variable {C : Nat} {tl : Nat → Nat → Bool} {sd st : Nat → Nat → Int32} {gv rc : Nat → Nat → Bool} {mt : Nat → Nat → Int32} {stn : Nat → Nat → Nat}
variable {n : Nat} {w1 w3 : Nat → Int32} {wt : Nat → Nat}
/-- news takes 0 to 20000 days, or never comes -/
def nwB (T : Nat) (nw : Nat → Nat → Int32) : Prop := ∀ a b, a < T → b < T → nw a b = -1 ∨ (0 ≤ (nw a b).toInt ∧ (nw a b).toInt ≤ 20000)
theorem add_n {x y : Int32} (hx : 0 ≤ x.toInt ∧ x.toInt ≤ 114) (hy : 0 ≤ y.toInt ∧ y.toInt ≤ 20000) : ∃ d, d < 30000 ∧ x + y = nI d ∧ (d : Int) = x.toInt + y.toInt := by
  have ex : x = nI x.toInt.toNat := by rw [fa_eq, nI_toInt (by omega)]; omega
  have ey : y = nI y.toInt.toNat := by rw [fa_eq, nI_toInt (by omega)]; omega
  refine ⟨x.toInt.toNat + y.toInt.toNat, by omega, ?_, by omega⟩
  rw [ex, ey, nI_add, nI_toInt (by omega), nI_toInt (by omega)]
  congr 1
theorem c_arr_e (hP : P 1 z 0 0 < 2) (hN : cNd I P z T nw) (hB : nwB T nw) {t0 t : Nat} (h0 : t0 < T) (ht : t < T) {d : Int32} (hd : 0 ≤ d.toInt ∧ d.toInt ≤ 114) {p : Int32 → Bool} {Q : Int32 → Prop} {k : Int32 → Option Int32}
    (hk : wp (k (mw (fun x => p x || arv nw t0 d t x))) Q) :
    wp ((f_X1_arrival I P z (nI t0) d (nI t)).bind fun y1 => (f_X1_earlier I (mw p) y1).bind fun y2 => k y2) Q := by
  have hT9 := hN.1
  have e := hN.2 t0 h0 t ht
  unfold f_X1_arrival
  rw [gd_t (dlt hP), gd_t (inb_n (by omega)), gd_t (inb_n (by omega)), bnd_e, nI_clamp (by omega), nI_clamp (by omega), e]
  by_cases q : nw t0 t = -1
  · rw [if_pos q, Option.bind_some, w_earlier1, Option.bind_some]
    have : mw (fun x => p x || arv nw t0 d t x) = mw p := mw_cong fun x _ => by unfold arv; simp [q]
    rw [this] at hk; exact hk
  · obtain ⟨D, hD, eD, _⟩ := add_n hd ((hB t0 t h0 ht).resolve_left q)
    rw [if_neg q, Option.bind_some, eD, w_earlier hD, Option.bind_some]
    have : mw (fun x => p x || arv nw t0 d t x) = mw (fun x => p x || decide (x = nI D)) := mw_cong fun x _ => by unfold arv; simp [q, eD]
    rw [this] at hk; exact hk
def nwsJ (nw : Nat → Nat → Int32) (tl : Nat → Nat → Bool) (stn : Nat → Nat → Nat) (sd : Nat → Nat → Int32) (c t : Nat) (x : Int32) (j : Nat) : Bool := tl c j && arv nw (stn c j) (sd c j) t x
def nwsW (nw : Nat → Nat → Int32) (w1 : Nat → Int32) (wt : Nat → Nat) (w3 : Nat → Int32) (c t : Nat) (x : Int32) (k : Nat) : Bool := decide (w1 k = nI c) && arv nw (wt k) (w3 k) t x
/-- what was said, and where and when -/
def sdW (C J T : Nat) (tl : Nat → Nat → Bool) (sd st : Nat → Nat → Int32) (stn : Nat → Nat → Nat) : Prop :=
  ∀ c, c < C → ∀ j, j < J → (tl c j = true → 0 ≤ (sd c j).toInt ∧ (sd c j).toInt ≤ 114 ∧ st c j = nI (stn c j) ∧ stn c j < T) ∧ (tl c j = false → sd c j = -1 ∧ st c j = -1)
def wdW (n T : Nat) (wt : Nat → Nat) (w3 : Nat → Int32) : Prop := ∀ k, k < n → wt k < T ∧ 0 ≤ (w3 k).toInt ∧ (w3 k).toInt ≤ 114
theorem c_news_76 (hP : P 1 z 0 0 < 2) (hN : cNd I P z T nw) (hB : nwB T nw) (hW : cRw I 0 n w1 (fun k => nI (wt k)) w3) (hw : wdW n T wt w3) {c t : Nat} (ht : t < T) {p : Int32 → Bool} : ∀ m fu k, k + m = n → m < fu →
    f_X1_firstNews_76 I P z fu (nI c) (nI t) (mw (fun x => p x || ex (nwsW nw w1 wt w3 c t x) 0 k)) 0 (nI k) = some (mw (fun x => p x || ex (nwsW nw w1 wt w3 c t x) 0 n)) := by
  have h40 := rl (b := 0)
  obtain ⟨hn, hn4, hr⟩ := hW
  intro m
  induction m with
  | zero =>
    intro fu k hk hf
    obtain ⟨g, rfl⟩ := Nat.exists_eq_succ_of_ne_zero (by omega : fu ≠ 0)
    have hk' : k = n := by omega
    simp (disch := omega) [gd, bnd, inb_n, nI_clamp, nI_leI, nI_ltI, nI_eq, nI_1, if_true, if_false, decide_true, ite_true, ite_false, f_X1_firstNews_76, hn, hk']
  | succ m ih =>
    intro fu k hk hf
    obtain ⟨g, rfl⟩ := Nat.exists_eq_succ_of_ne_zero (by omega : fu ≠ 0)
    obtain ⟨r1, r2, r3⟩ := hr k (by omega)
    obtain ⟨q1, q2, q3⟩ := hw k (by omega)
    refine wp_eq.mp ?_
    unfold f_X1_firstNews_76
    rw [hn, nI_1]
    refine wp_neg (by rw [nI_leI (by omega) (by omega)]; omega) (wp_gd (inb_n (by omega) (by omega)) ?_)
    rw [nI_clamp (by omega), r1, r2, r3]
    have ih' := wp_eq.mpr (ih g (k + 1) (by omega) (by omega))
    have es : ∀ x, (p x || ex (nwsW nw w1 wt w3 c t x) 0 (k + 1)) = ((p x || ex (nwsW nw w1 wt w3 c t x) 0 k) || nwsW nw w1 wt w3 c t x k) := by
      intro x; rw [ex_snoc, Nat.zero_add, Bool.or_assoc]
    simp only [es] at ih'
    refine wp_ite (fun q => ?_) (fun q => ?_)
    · refine c_arr_e hP hN hB q1 ht ⟨q2, q3⟩ ?_
      have : ∀ x, arv nw (wt k) (w3 k) t x = nwsW nw w1 wt w3 c t x k := fun x => by unfold nwsW; simp [q]
      simp only [this]
      exact ih'
    · have : ∀ x, nwsW nw w1 wt w3 c t x k = false := fun x => by unfold nwsW; simp [q]
      simp only [this, Bool.or_false] at ih'
      exact ih'
theorem c_news_5 (h : cJ I P z J ns tw dy) (hb : P 1 z 0 1 = 0) (hv : vS I z C J tl sd st gv rc mt) (hs : sdW C J T tl sd st stn) (hN : cNd I P z T nw) (hB : nwB T nw) (hW : cRw I 0 n w1 (fun k => nI (wt k)) w3) (hw : wdW n T wt w3) (hC : C ≤ 6) {c t : Nat} (hc : c < C) (ht : t < T) : ∀ m fu k, k + m = J → m < fu →
    f_X1_firstNews_5 I P z fu (nI c) (nI t) (mw (fun x => ex (nwsJ nw tl stn sd c t x) 0 k)) (nI k) = some (mw (fun x => ex (nwsJ nw tl stn sd c t x) 0 J || ex (nwsW nw w1 wt w3 c t x) 0 n)) := by
  have ⟨hP, hJ, hJ5, hns, hst⟩ := h
  have h40 := rl (b := 0)
  have hn4 := hW.2.1
  intro m
  induction m with
  | zero =>
    intro fu k hk hf
    obtain ⟨g, rfl⟩ := Nat.exists_eq_succ_of_ne_zero (by omega : fu ≠ 0)
    have hk' : k = J := by omega
    subst hk'
    have e := c_news_76 hP hN hB hW hw (c := c) ht (p := fun x => ex (nwsJ nw tl stn sd c t x) 0 k) n FU 0 (by omega) (by unfold FU; omega)
    simp only [ex, Bool.or_false] at e
    unfold f_X1_firstNews_5
    rw [hJ, hb, gd_t (dlt hP), if_pos (by rw [nI_leI (by omega) (by omega)]; omega), gd_t (by decide)]
    exact e
  | succ m ih =>
    intro fu k hk hf
    obtain ⟨g, rfl⟩ := Nat.exists_eq_succ_of_ne_zero (by omega : fu ≠ 0)
    obtain ⟨v1, v2, v3⟩ := hv.1 c hc k (by omega)
    obtain ⟨s1, s2⟩ := hs c hc k (by omega)
    refine wp_eq.mp ?_
    unfold f_X1_firstNews_5
    rw [hJ, nI_1]
    refine wp_gd (dlt hP) (wp_neg (by rw [nI_leI (by omega) (by omega)]; omega) (wp_gd (inb_n (by omega)) (wp_gd (inb_n (by omega)) ?_)))
    rw [nI_clamp (by omega), nI_clamp (by omega), v1, v2]
    have ih' := wp_eq.mpr (ih g (k + 1) (by omega) (by omega))
    have es : ∀ x, ex (nwsJ nw tl stn sd c t x) 0 (k + 1) = (ex (nwsJ nw tl stn sd c t x) 0 k || nwsJ nw tl stn sd c t x k) := by
      intro x; rw [ex_snoc, Nat.zero_add]
    simp only [es] at ih'
    cases et : tl c k
    · have : ∀ x, nwsJ nw tl stn sd c t x k = false := fun x => by unfold nwsJ; simp [et]
      simp only [this, Bool.or_false] at ih'
      refine wp_pos (s2 et).1 ih'
    · obtain ⟨a1, a2, a3, a4⟩ := s1 et
      have : ∀ x, nwsJ nw tl stn sd c t x k = arv nw (stn c k) (sd c k) t x := fun x => by unfold nwsJ; simp [et]
      simp only [this] at ih'
      refine wp_neg (fun q => by rw [q] at a1; exact absurd a1 (by decide)) ?_
      rw [a3]
      exact c_arr_e hP hN hB a4 ht ⟨a1, a2⟩ ih'
theorem c_news (h : cJ I P z J ns tw dy) (hb : P 1 z 0 1 = 0) (hv : vS I z C J tl sd st gv rc mt) (hs : sdW C J T tl sd st stn) (hN : cNd I P z T nw) (hB : nwB T nw) (hW : cRw I 0 n w1 (fun k => nI (wt k)) w3) (hw : wdW n T wt w3) (hC : C ≤ 6) {c t : Nat} (hc : c < C) (ht : t < T) :
    f_X1_firstNews I P z (nI c) (nI t) = some (mw (fun x => ex (nwsJ nw tl stn sd c t x) 0 J || ex (nwsW nw w1 wt w3 c t x) 0 n)) := by
  have hJ5 := h.2.2.1
  have e := c_news_5 h hb hv hs hN hB hW hw hC hc ht J FU 0 (by omega) (by unfold FU; omega)
  have e0 : (mw fun x => ex (nwsJ nw tl stn sd c t x) 0 0) = -1 := by
    unfold mw
    rw [ff_none _ (fun i _ _ => by simp [ex]), if_neg (by omega)]
  rw [e0] at e
  exact e
/-! what is void, what was seen -/
def vdv (rc : Nat → Nat → Bool) (df : Int32) (c j : Nat) : Bool := rc c j && !bt df j
theorem c_void (hv : vS I z C J tl sd st gv rc mt) (hJ5 : J ≤ 5) (hC : C ≤ 6) {c j : Nat} (hc : c < C) (hj : j < J) {df : Int32} (hdf : I 1 z 0 2 = df) :
    wp (f_X1_voids I z (nI c)) (fun r => jushr r (nI j) &&& 1 = bI (vdv rc df c j)) := by
  unfold f_X1_voids
  refine wp_gd (inb_n (by omega)) (wp_some ?_)
  rw [nI_clamp (by omega), hv.2.1 c hc, hdf, ush1 (by omega), b_and, bt_not (by omega), bt_bs _ _ _ _ _ (by omega) (by omega), b_0]
  simp only [Nat.zero_add, Nat.zero_le, decide_true, Bool.true_and, Bool.false_or, hj]
  rfl
def asS (rc : Nat → Nat → Bool) (df more : Int32) (c : Nat) (s1 s2 : Nat → Nat) (s3 : Nat → Bool) (k : Nat) : Bool :=
  ((rc (s1 k) (s2 k) || (decide (s1 k = c) && bt more (s2 k))) && !bt df (s2 k)) != s3 k
theorem bI_inj {a b : Bool} : bI a = bI b ↔ a = b := by cases a <;> cases b <;> decide
theorem c_seen_11 (hv : vS I z C J tl sd st gv rc mt) (hJ5 : J ≤ 5) (hC : C ≤ 6) {c : Nat} (hc : c < C) {df more : Int32} (hdf : I 1 z 0 2 = df) {s1 s2 : Nat → Nat} {s3 : Nat → Bool} {b : Nat} (hS' : cRw I b n (fun k => nI (s1 k)) (fun k => nI (s2 k)) (fun k => bI (s3 k))) (hs : ∀ k, k < n → s1 k < C ∧ s2 k < J) : ∀ m fu k, k + m = n → m < fu →
    f_X1_isAllAsSeen_11 I P z fu (nI c) more b (nI k) = some (bI (!ex (asS rc df more c s1 s2 s3) k m)) := by
  have h40 := rl (b := b)
  obtain ⟨hn, hn4, hr⟩ := hS'
  intro m
  induction m with
  | zero =>
    intro fu k hk hf
    obtain ⟨g, rfl⟩ := Nat.exists_eq_succ_of_ne_zero (by omega : fu ≠ 0)
    have hk' : n ≤ k := by omega
    simp (disch := omega) [gd, bnd, inb_n, nI_clamp, nI_leI, nI_ltI, nI_eq, nI_1, if_true, if_false, decide_true, ite_true, ite_false, f_X1_isAllAsSeen_11, hn, hk', ex, bI]
  | succ m ih =>
    intro fu k hk hf
    obtain ⟨g, rfl⟩ := Nat.exists_eq_succ_of_ne_zero (by omega : fu ≠ 0)
    obtain ⟨r1, r2, r3⟩ := hr k (by omega)
    obtain ⟨q1, q2⟩ := hs k (by omega)
    have hk' : ¬ n ≤ k := by omega
    have ih' := ih g (k + 1) (by omega) (by omega)
    have e21 := hv.2.1 (s1 k) q1
    have h47 : ∀ s0, f_X1_isAllAsSeen_47 (f_X1_isAllAsSeen_11 I P z g) I P z (nI c) more b (nI k) s0 (bs (rc (s1 k)) 0 J 0) = if ((rc (s1 k) (s2 k) || bt s0 (s2 k)) && !bt df (s2 k)) = s3 k then some (bI (!ex (asS rc df more c s1 s2 s3) (k + 1) m)) else some 0 := by
      intro s0
      have hb : jushr ((bs (rc (s1 k)) 0 J 0 ||| s0) &&& (df ^^^ -1)) (nI (s2 k)) &&& 1 = bI ((rc (s1 k) (s2 k) || bt s0 (s2 k)) && !bt df (s2 k)) := by
        rw [ush1 (by omega), b_and, bt_not (by omega), b_or, bt_bs _ _ _ _ _ (by omega) (by omega), b_0]
        simp only [Nat.zero_add, Nat.zero_le, decide_true, Bool.true_and, Bool.false_or, q2]
      simp (disch := omega) only [gd, bnd, inb_n, nI_clamp, nI_leI, nI_ltI, nI_eq, nI_1, if_true, if_false, decide_true, ite_true, ite_false, f_X1_isAllAsSeen_47, hdf, r2, r3, hb, bI_inj, ih']
    have e47a := h47 more
    have e47b := h47 0
    rw [b_0, Bool.or_false] at e47b
    simp (disch := omega) only [gd, bnd, inb_n, nI_clamp, nI_leI, nI_ltI, nI_eq, nI_1, if_true, if_false, decide_true, ite_true, ite_false, f_X1_isAllAsSeen_11, hn, hk', r1, e21, e47a, e47b, ex, asS]
    by_cases e : s1 k = c
    · simp only [e, if_true, decide_true, Bool.true_and]
      by_cases q : ((rc c (s2 k) || bt more (s2 k)) && !bt df (s2 k)) = s3 k
      · rw [if_pos q, q]; simp
      · rw [if_neg q]
        have : (((rc c (s2 k) || bt more (s2 k)) && !bt df (s2 k)) != s3 k) = true := by simpa using q
        rw [this]; rfl
    · simp only [e, if_false, decide_false, Bool.false_and, Bool.or_false]
      by_cases q : (rc (s1 k) (s2 k) && !bt df (s2 k)) = s3 k
      · rw [if_pos q, q]; simp
      · rw [if_neg q]
        have : ((rc (s1 k) (s2 k) && !bt df (s2 k)) != s3 k) = true := by simpa using q
        rw [this]; rfl
theorem c_seen (hv : vS I z C J tl sd st gv rc mt) (hb : P 1 z 0 1 = 0) (hJ5 : J ≤ 5) (hC : C ≤ 6) {c : Nat} (hc : c < C) {df more : Int32} (hdf : I 1 z 0 2 = df) {s1 s2 : Nat → Nat} {s3 : Nat → Bool} (hS' : cRw I 4 n (fun k => nI (s1 k)) (fun k => nI (s2 k)) (fun k => bI (s3 k))) (hs : ∀ k, k < n → s1 k < C ∧ s2 k < J) :
    f_X1_isAllAsSeen I P z (nI c) more = some (bI (!ex (asS rc df more c s1 s2 s3) 0 n)) := by
  have h40 := rl (b := 4)
  have hn4 := hS'.2.1
  unfold f_X1_isAllAsSeen
  rw [hb, gd_t (by decide)]
  exact c_seen_11 hv hJ5 hC hc hdf hS' hs n FU 0 (by omega) (by unfold FU; omega)
end
