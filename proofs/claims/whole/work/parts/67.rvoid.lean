/-! the reference's court: news, what is void -/
def nv (x : Int32) : Int32 := if x = -1 then 100000 else x
theorem n_1e5 : (100000 : Int32) = nI 100000 := rfl
theorem m1_toInt : (-1 : Int32).toInt = -1 := rfl
/-- ways and news: both or neither -/
def wyB (T : Nat) (rd : Nat → Nat → Int32) (g : Int32) (nw : Nat → Nat → Int32) : Prop :=
  ∀ a b, a < T → b < T → (rd a b = -1 ∧ nw a b = -1) ∨ (0 ≤ (rd a b).toInt ∧ (rd a b).toInt ≤ 4700 ∧ nw a b = (rd a b * g + 9) / 10 ∧ 0 ≤ (nw a b).toInt ∧ (nw a b).toInt ≤ 20000)
theorem wyB_n {T : Nat} {rd : Nat → Nat → Int32} {g : Int32} {nw : Nat → Nat → Int32} (h : wyB T rd g nw) : nwB T nw := fun a b ha hb => (h a b ha hb).imp (fun x => x.2) (fun x => x.2.2.2)
/-- as the reference holds them -/
def rN (I : Mem) (T : Nat) (rd : Nat → Nat → Int32) (g : Int32) (nw : Nat → Nat → Int32) : Prop :=
  T ≤ 9 ∧ I 50 0 0 3 = g ∧ (∀ a b, a < T → b < T → I 61 0 0 (9 * a + b) = nv (rd a b)) ∧ wyB T rd g nw
theorem rN_fr {I I' : Mem} {S : List (Nat × Nat)} {T : Nat} {rd : Nat → Nat → Int32} {g : Int32} {nw : Nat → Nat → Int32} (h : rN I T rd g nw) (F : Fr S I I') (hs' : ∀ c, c ∈ [50, 61] → ¬ (c, 0) ∈ S) : rN I' T rd g nw := by
  unfold rN at *
  rw [F.g (hs' 50 (by decide)), F.g (hs' 61 (by decide))]
  exact h
def vR (I : Mem) (C J : Nat) (tl : Nat → Nat → Bool) (sd : Nat → Nat → Int32) (stn : Nat → Nat → Nat) (gv : Nat → Nat → Bool) : Prop :=
  ∀ c, c < C → ∀ j, j < J → I 71 0 0 (5 * c + j) = (if tl c j then bI (gv c j) else -1) ∧ (tl c j = true → I 72 0 0 (5 * c + j) = sd c j ∧ I 73 0 0 (5 * c + j) = nI (stn c j))
theorem vR_fr {I I' : Mem} {S : List (Nat × Nat)} {C J : Nat} {tl : Nat → Nat → Bool} {sd : Nat → Nat → Int32} {stn : Nat → Nat → Nat} {gv : Nat → Nat → Bool} (h : vR I C J tl sd stn gv) (F : Fr S I I') (hs' : ∀ c, c ∈ [71, 72, 73] → ¬ (c, 0) ∈ S) : vR I' C J tl sd stn gv := by
  unfold vR at *
  rw [F.g (hs' 71 (by decide)), F.g (hs' 72 (by decide)), F.g (hs' 73 (by decide))]
  exact h
theorem tl_no {b x : Bool} : (if b = true then bI x else -1) = -1 ↔ b = false := by cases b <;> cases x <;> decide
theorem mw_b (p : Int32 → Bool) : mw p = -1 ∨ (∃ d, d < 30000 ∧ mw p = nI d) := by
  unfold mw
  split
  · rename_i h; exact Or.inr ⟨_, h, rfl⟩
  · exact Or.inl rfl
theorem mw_le {p : Int32 → Bool} {d : Int32} (hd : 0 ≤ d.toInt ∧ d.toInt ≤ 114) : ¬ d < nv (mw p) ↔ ∃ x, x < 30000 ∧ p (nI x) = true ∧ nI x ≤ d := by
  have b := ff_b (fun x => p (nI x)) 30000 0
  unfold mw
  by_cases e : ff (fun x => p (nI x)) 0 30000 < 30000
  · rw [if_pos e, nv, if_neg (nI_ni (by omega))]
    have y := ff_yes (fun x => p (nI x)) 30000 0 (by omega)
    constructor
    · intro h
      exact ⟨_, e, y, fa_of_nlt h⟩
    · rintro ⟨x, hx, px, hle⟩ h
      have : ¬ x < ff (fun x => p (nI x)) 0 30000 := by
        intro q
        have := ff_no (fun x => p (nI x)) 30000 0 x (Nat.zero_le _) q
        rw [px] at this; cases this
      rw [fa_lt, nI_toInt (by omega)] at h
      rw [fa_le, nI_toInt (by omega)] at hle
      omega
  · rw [if_neg e, nv, if_pos rfl, n_1e5]
    constructor
    · intro h
      exfalso; apply h
      rw [fa_lt, nI_toInt (by omega)]; omega
    · rintro ⟨x, hx, px, hle⟩
      have := ff_no (fun x => p (nI x)) 30000 0 x (Nat.zero_le _) (by omega)
      rw [px] at this; cases this
section
variable {T : Nat} {rd : Nat → Nat → Int32} {gg : Int32} {nw : Nat → Nat → Int32}
theorem ne_m1 {x : Int32} (h : 0 ≤ x.toInt) : x ≠ -1 := by
  intro e
  rw [e] at h
  exact absurd h (by decide)
theorem r_newsDays {I : Mem} (h : rN I T rd gg nw) {a b : Nat} (ha : a < T) (hb : b < T) : f_X8_newsDays I (nI a) (nI b) = some (nv (nw a b)) := by
  obtain ⟨hT, hg, h1, hB⟩ := h
  have e1 := h1 a b ha hb
  unfold f_X8_newsDays f_X8_couple
  rw [Option.bind_some, n_9, idx_n, gd_t (inb_n (by omega)), bnd_e, nI_clamp (by omega), e1, hg]
  rcases hB a b ha hb with ⟨q1, q2⟩ | ⟨q1, q2, q3, q4, q5⟩
  · rw [q1, q2]; rfl
  · have e2 : nv (rd a b) = rd a b := if_neg (ne_m1 q1)
    have e3 : nv (nw a b) = nw a b := if_neg (ne_m1 q4)
    rw [e2, if_pos (by rw [fa_lt, n_1e5, nI_toInt (by omega)]; omega), ← n_9, ← q3, e3]
/-- the least of two days -/
theorem r_min {p : Int32 → Bool} {t0 t : Nat} (hB : nwB T nw) (h0 : t0 < T) (ht : t < T) {d : Int32} (hd : 0 ≤ d.toInt ∧ d.toInt ≤ 114) : jmin (nv (mw p)) (d + nv (nw t0 t)) = nv (mw (fun x => p x || arv nw t0 d t x)) := by
  by_cases q : nw t0 t = -1
  · have : mw (fun x => p x || arv nw t0 d t x) = mw p := mw_cong fun x _ => by unfold arv; simp [q]
    rw [this, q]
    unfold jmin
    rw [if_neg]
    have ed : d = nI d.toInt.toNat := by rw [fa_eq, nI_toInt (by omega)]; omega
    rw [show nv (-1) = nI 100000 from rfl, ed, nI_add, fa_lt, nI_toInt (by omega)]
    rcases mw_b p with e | ⟨x, hx, e⟩
    · rw [e, show nv (-1) = nI 100000 from rfl, nI_toInt (by omega)]; omega
    · rw [e, nv, if_neg (nI_ni (by omega)), nI_toInt (by omega)]; omega
  · obtain ⟨D, hD, eD, _⟩ := add_n hd ((hB t0 t h0 ht).resolve_left q)
    have : mw (fun x => p x || arv nw t0 d t x) = mw (fun x => p x || decide (x = nI D)) := mw_cong fun x _ => by unfold arv; simp [q, eD]
    have e2 : nv (nw t0 t) = nw t0 t := if_neg q
    rw [this, e2, eD, mw_or hD]
    unfold jmin
    rcases mw_b p with e | ⟨x, hx, e⟩
    · rw [e, if_pos rfl, show nv (-1) = nI 100000 from rfl, nv, if_neg (nI_ni (by omega)), if_pos]
      rw [nI_ltI (by omega) (by omega)]; omega
    · rw [e, if_neg (nI_ni (by omega)), nv, if_neg (nI_ni (by omega))]
      by_cases q2 : nI x ≤ nI D
      · rw [if_pos q2, if_neg (fun h => (fa_of_lt h).2.1 q2), nv, if_neg (nI_ni (by omega))]
      · rw [if_neg q2, if_pos (fa_of_nle q2), nv, if_neg (nI_ni (by omega))]
variable {n : Nat} {w1 w3 : Nat → Int32} {wt : Nat → Nat}
theorem r_byWord_6 {I : Mem} (h : rN I T rd gg nw) (hR : rR I 30 62 n w1 (fun k => nI (wt k)) w3) (hn5 : n ≤ 5) (hw : wdW n T wt w3) {c t : Nat} (ht : t < T) : ∀ m fu k, k + m = n → m < fu →
    f_X8_newsByWord_6 I fu (nI c) (nI t) (nv (mw (fun x => ex (nwsW nw w1 wt w3 c t x) 0 k))) (nI k) = some (nv (mw (fun x => ex (nwsW nw w1 wt w3 c t x) 0 n))) := by
  obtain ⟨hn, hr⟩ := hR
  intro m
  induction m with
  | zero =>
    intro fu k hk hf
    obtain ⟨g, rfl⟩ := Nat.exists_eq_succ_of_ne_zero (by omega : fu ≠ 0)
    have hk' : k = n := by omega
    simp (disch := omega) [gd, bnd, inb_n, nI_clamp, nI_leI, nI_ltI, nI_eq, nI_1, if_true, if_false, decide_true, ite_true, ite_false, f_X8_newsByWord_6, hn, hk']
  | succ m ih =>
    intro fu k hk hf
    obtain ⟨g, rfl⟩ := Nat.exists_eq_succ_of_ne_zero (by omega : fu ≠ 0)
    obtain ⟨r1, r2, r3⟩ := hr k (by omega)
    obtain ⟨q1, q2, q3⟩ := hw k (by omega)
    have hk' : ¬ n ≤ k := by omega
    have ih' := ih g (k + 1) (by omega) (by omega)
    have x0 : (3 : Int32) * nI k = nI (3 * k) := pk_mul 3 k
    have x2 : nI (3 * k) + (2 : Int32) = nI (3 * k + 2) := nI_add _ 2
    have es : ∀ x, ex (nwsW nw w1 wt w3 c t x) 0 (k + 1) = (ex (nwsW nw w1 wt w3 c t x) 0 k || nwsW nw w1 wt w3 c t x k) := by
      intro x; rw [ex_snoc, Nat.zero_add]
    simp only [es] at ih'
    have e1 := r_newsDays h q1 ht
    simp (disch := omega) only [gd, bnd, inb_n, nI_clamp, nI_leI, nI_ltI, nI_eq, nI_1, if_true, if_false, decide_true, ite_true, ite_false, f_X8_newsByWord_6, hn, hk', x0, x2, r1, r2, r3, e1, Option.bind_some, r_min (wyB_n h.2.2.2) q1 ht ⟨q2, q3⟩]
    by_cases q : w1 k = nI c
    · have : ∀ x, nwsW nw w1 wt w3 c t x k = arv nw (wt k) (w3 k) t x := fun x => by unfold nwsW; simp [q]
      simp only [this] at ih'
      rw [if_pos q]
      exact ih'
    · have : ∀ x, nwsW nw w1 wt w3 c t x k = false := fun x => by unfold nwsW; simp [q]
      simp only [this, Bool.or_false] at ih'
      rw [if_neg q]
      exact ih'
theorem mw_no : mw (fun _ => false) = -1 := by
  unfold mw
  rw [ff_none _ (fun i _ _ => rfl), if_neg (by omega)]
theorem r_byWord {I : Mem} (h : rN I T rd gg nw) (hR : rR I 30 62 n w1 (fun k => nI (wt k)) w3) (hn5 : n ≤ 5) (hw : wdW n T wt w3) {c t : Nat} (ht : t < T) :
    f_X8_newsByWord I (nI c) (nI t) = some (nv (mw (fun x => ex (nwsW nw w1 wt w3 c t x) 0 n))) := by
  have e := r_byWord_6 (c := c) h hR hn5 hw ht n FU 0 (by omega) (by unfold FU; omega)
  have e0 : (mw fun x => ex (nwsW nw w1 wt w3 c t x) 0 0) = -1 := mw_no
  rw [e0] at e
  exact e
variable {C J : Nat} {tl : Nat → Nat → Bool} {sd st : Nat → Nat → Int32} {stn : Nat → Nat → Nat} {gv : Nat → Nat → Bool}
theorem r_newsBy {I : Mem} (h : rN I T rd gg nw) (hv : vR I C J tl sd stn gv) (hs : sdW C J T tl sd st stn) (hC : C ≤ 6) (hJ5 : J ≤ 5) {c j t : Nat} (hc : c < C) (hj : j < J) (ht : t < T) :
    f_X8_newsBy I (nI c) (nI j) (nI t) = some (if tl c j then sd c j + nv (nw (stn c j) t) else 100000) := by
  obtain ⟨v1, v2⟩ := hv c hc j hj
  obtain ⟨s1, s2⟩ := hs c hc j hj
  unfold f_X8_newsBy
  rw [n_5, idx_n, bnd_e, gd_t (inb_n (by omega)), nI_clamp (by omega), v1]
  cases e : tl c j
  · rfl
  · obtain ⟨a1, a2⟩ := v2 e
    obtain ⟨b1, b2, b3, b4⟩ := s1 e
    rw [a1, a2, r_newsDays h b4 ht, Option.bind_some, if_pos rfl, if_neg (by cases gv c j <;> decide), if_pos rfl]
variable {ns : Nat → Nat} {tw : Nat → Nat → Nat} {dy : Nat → Nat → Int32}
/-- whom news reaches, over a view -/
def rcV (nw : Nat → Nat → Int32) (J : Nat) (ns : Nat → Nat) (tw : Nat → Nat → Nat) (dy : Nat → Nat → Int32) (tl : Nat → Nat → Bool) (sd : Nat → Nat → Int32) (stn : Nat → Nat → Nat) (n : Nat) (w1 : Nat → Int32) (wt : Nat → Nat) (w3 : Nat → Int32) (c j : Nat) : Bool :=
  ex (fun q => tl c q && (decide (sd c q < sd c j) && cx nw (tw j) (dy j) (ns j) (sd c j) (stn c q) (sd c q))) 0 J || ex (fun k => decide (w1 k = nI c) && cx nw (tw j) (dy j) (ns j) (sd c j) (wt k) (w3 k)) 0 n
def vB (nw : Nat → Nat → Int32) (tw : Nat → Nat → Nat) (dy : Nat → Nat → Int32) (tl : Nat → Nat → Bool) (sd : Nat → Nat → Int32) (stn : Nat → Nat → Nat) (c j i q : Nat) : Bool :=
  tl c q && (decide (sd c q < sd c j) && (decide (nw (stn c q) (tw j i) ≠ -1) && decide (sd c q + nw (stn c q) (tw j i) ≤ dy j i)))
def vA (nw : Nat → Nat → Int32) (tw : Nat → Nat → Nat) (dy : Nat → Nat → Int32) (n : Nat) (w1 : Nat → Int32) (wt : Nat → Nat) (w3 : Nat → Int32) (c j i : Nat) : Bool :=
  ex (fun k => decide (w1 k = nI c) && (decide (nw (wt k) (tw j i) ≠ -1) && decide (w3 k + nw (wt k) (tw j i) ≤ dy j i))) 0 n
theorem vA_iff (hB : nwB T nw) (hw : wdW n T wt w3) {c j i : Nat} (ht : tw j i < T) (hd : 0 ≤ (dy j i).toInt ∧ (dy j i).toInt ≤ 114) :
    ¬ dy j i < nv (mw (fun x => ex (nwsW nw w1 wt w3 c (tw j i) x) 0 n)) ↔ vA nw tw dy n w1 wt w3 c j i = true := by
  rw [mw_le hd]
  unfold vA
  rw [ex_iff]
  constructor
  · rintro ⟨x, hx, px, hle⟩
    rw [ex_iff] at px
    obtain ⟨k, h1, h2, h3⟩ := px
    unfold nwsW arv at h3
    simp only [Bool.and_eq_true, decide_eq_true_eq] at h3
    refine ⟨k, h1, h2, ?_⟩
    simp only [Bool.and_eq_true, decide_eq_true_eq]
    exact ⟨h3.1, h3.2.1, by rw [← h3.2.2]; exact hle⟩
  · rintro ⟨k, h1, h2, h3⟩
    simp only [Bool.and_eq_true, decide_eq_true_eq] at h3
    obtain ⟨q1, q2, q3⟩ := hw k (by omega)
    obtain ⟨D, hD, eD, _⟩ := add_n ⟨q2, q3⟩ ((hB _ _ q1 ht).resolve_left h3.2.1)
    refine ⟨D, hD, ?_, by rw [← eD]; exact h3.2.2⟩
    rw [ex_iff]
    refine ⟨k, h1, h2, ?_⟩
    unfold nwsW arv
    simp only [Bool.and_eq_true, decide_eq_true_eq]
    exact ⟨h3.1, h3.2.1, eD.symm⟩
theorem r_void_132 {I : Mem} (hJ : I 50 0 0 4 = nI J) (hJ5 : J ≤ 5) (h : rN I T rd gg nw) (hv : vR I C J tl sd stn gv) (hs : sdW C J T tl sd st stn) (hC : C ≤ 6) {c j i : Nat} (hc : c < C) (hj : j < J) (hi : i < 7) (htj : tl c j = true) (ht : tw j i < T) (hd : 0 ≤ (dy j i).toInt ∧ (dy j i).toInt ≤ 114) {k55 : Int32 → Int32 → Int32 → Int32 → Option Int32} : ∀ m fu k, k + m = J → m < fu →
    f_X8_isVoided_132 k55 I fu (nI c) (nI j) (nI (5 * c + j)) (nI i) (nI (tw j i)) (dy j i) (nI k) = if ex (vB nw tw dy tl sd stn c j i) k m = true then some 1 else k55 (nI c) (nI j) (nI (5 * c + j)) (nI (i + 1)) := by
  intro m
  induction m with
  | zero =>
    intro fu k hk hf
    obtain ⟨g, rfl⟩ := Nat.exists_eq_succ_of_ne_zero (by omega : fu ≠ 0)
    have hk' : J ≤ k := by omega
    simp (disch := omega) only [gd, bnd, inb_n, nI_clamp, nI_leI, nI_ltI, nI_eq, nI_1, if_true, if_false, decide_true, ite_true, ite_false, f_X8_isVoided_132, hJ, hk', ex]
    rfl
  | succ m ih =>
    intro fu k hk hf
    obtain ⟨g, rfl⟩ := Nat.exists_eq_succ_of_ne_zero (by omega : fu ≠ 0)
    have hk' : ¬ J ≤ k := by omega
    have ih' := ih g (k + 1) (by omega) (by omega)
    obtain ⟨v1, v2⟩ := hv c hc k (by omega)
    obtain ⟨u1, u2⟩ := hv c hc j hj
    obtain ⟨s1, s2⟩ := hs c hc k (by omega)
    have eN := r_newsBy h hv hs hC hJ5 hc (by omega : k < J) ht
    have uj := (u2 htj).1
    rw [show ex (vB nw tw dy tl sd stn c j i) k (m + 1) = (vB nw tw dy tl sd stn c j i k || ex (vB nw tw dy tl sd stn c j i) (k + 1) m) from rfl]
    simp (disch := omega) only [gd, bnd, inb_n, nI_clamp, nI_leI, nI_ltI, nI_eq, nI_1, if_true, if_false, decide_true, ite_true, ite_false, f_X8_isVoided_132, hJ, hk', n_5, idx_n, v1, uj, eN, Option.bind_some, ih']
    have no : vB nw tw dy tl sd stn c j i k = false → (if (vB nw tw dy tl sd stn c j i k || ex (vB nw tw dy tl sd stn c j i) (k + 1) m) = true then some (1 : Int32) else k55 (nI c) (nI j) (nI (5 * c + j)) (nI (i + 1))) = (if ex (vB nw tw dy tl sd stn c j i) (k + 1) m = true then some (1 : Int32) else k55 (nI c) (nI j) (nI (5 * c + j)) (nI (i + 1))) := by
      intro q; rw [q, Bool.false_or]
    by_cases e : k = j
    · rw [if_pos e, no]
      unfold vB
      have : ¬ sd c k < sd c j := by rw [e, fa_lt]; omega
      simp [this]
    · rw [if_neg e]
      cases et : tl c k
      · rw [no (by unfold vB; simp [et])]
        simp
      · obtain ⟨a1, a2⟩ := v2 et
        obtain ⟨b1, b2, b3, b4⟩ := s1 et
        have g1 : ¬ (if true = true then bI (gv c k) else -1) = -1 := by cases gv c k <;> decide
        rw [if_neg g1, a1]
        by_cases e2 : sd c j ≤ sd c k
        · rw [if_pos e2, no]
          have : ¬ sd c k < sd c j := fun h => (fa_of_lt h).2.1 e2
          unfold vB; simp [this]
        · rw [if_neg e2, if_pos rfl]
          have lt := fa_of_nle e2
          by_cases e3 : nw (stn c k) (tw j i) = -1
          · have : dy j i < sd c k + nv (nw (stn c k) (tw j i)) := by
              have es : sd c k = nI (sd c k).toInt.toNat := by rw [fa_eq, nI_toInt (by omega)]; omega
              rw [e3, show nv (-1) = nI 100000 from rfl, es, nI_add, fa_lt, nI_toInt (by omega)]; omega
            rw [if_pos this, no (by unfold vB; simp [e3])]
          · have en : nv (nw (stn c k) (tw j i)) = nw (stn c k) (tw j i) := if_neg e3
            rw [en]
            by_cases e4 : dy j i < sd c k + nw (stn c k) (tw j i)
            · have : ¬ sd c k + nw (stn c k) (tw j i) ≤ dy j i := (fa_of_lt e4).2.1
              rw [if_pos e4, no (by unfold vB; simp [this])]
            · have q4 := fa_of_nlt e4
              have : vB nw tw dy tl sd stn c j i k = true := by unfold vB; simp [et, lt, e3, q4]
              rw [if_neg e4, this]; rfl
theorem r_void_55 {I : Mem} (hJ' : rJ I J ns tw dy) (hdy : Days dy J ns) (hT : twT J ns tw T) (h : rN I T rd gg nw) (hR : rR I 30 62 n w1 (fun k => nI (wt k)) w3) (hn5 : n ≤ 5) (hw : wdW n T wt w3) (hv : vR I C J tl sd stn gv) (hs : sdW C J T tl sd st stn) (hC : C ≤ 6) {c j : Nat} (hc : c < C) (hj : j < J) (htj : tl c j = true) : ∀ m fu k, k + m = ns j → m < fu →
    f_X8_isVoided_55 I fu (nI c) (nI j) (nI (5 * c + j)) (nI k) = some (bI (ex (fun i => vA nw tw dy n w1 wt w3 c j i || ex (vB nw tw dy tl sd stn c j i) 0 J) k (ff (fun i => decide (sd c j < dy j i)) k m - k))) := by
  have ⟨hJ, hJ5, hns, hst⟩ := hJ'
  obtain ⟨hn, hn7⟩ := hns j hj
  have uj := ((hv c hc j hj).2 htj).1
  intro m
  induction m with
  | zero =>
    intro fu k hk hf
    obtain ⟨g, rfl⟩ := Nat.exists_eq_succ_of_ne_zero (by omega : fu ≠ 0)
    have hk' : k = ns j := by omega
    simp (disch := omega) [gd, bnd, inb_n, nI_clamp, nI_leI, nI_ltI, nI_eq, nI_1, if_true, if_false, decide_true, ite_true, ite_false, f_X8_isVoided_55, hn, hk', ff, ex, bI]
  | succ m ih =>
    intro fu k hk hf
    obtain ⟨g, rfl⟩ := Nat.exists_eq_succ_of_ne_zero (by omega : fu ≠ 0)
    have hk' : ¬ ns j ≤ k := by omega
    obtain ⟨e68, e69, _⟩ := hst j hj k (by omega)
    have htk := hT j hj k (by omega)
    have hdk := hdy.1 j k hj (by omega)
    have ih' := ih g (k + 1) (by omega) (by omega)
    have eW := r_byWord (c := c) h hR hn5 hw htk
    have eV := r_void_132 (dy := dy) hJ hJ5 h hv hs hC hc hj (by omega : k < 7) htj htk hdk (k55 := f_X8_isVoided_55 I g) J FU 0 (by omega) (by unfold FU; omega)
    have eV' : f_X8_isVoided_132 (f_X8_isVoided_55 I g) I FU (nI c) (nI j) (nI (5 * c + j)) (nI k) (nI (tw j k)) (dy j k) 0 = if ex (vB nw tw dy tl sd stn c j k) 0 J = true then some 1 else f_X8_isVoided_55 I g (nI c) (nI j) (nI (5 * c + j)) (nI (k + 1)) := eV
    simp (disch := omega) only [gd, bnd, inb_n, nI_clamp, nI_leI, nI_ltI, nI_eq, nI_1, if_true, if_false, decide_true, ite_true, ite_false, f_X8_isVoided_55, hn, hk', n_7, idx_n, e68, e69, uj, eW, Option.bind_some, eV', ih', ff]
    have hA := vA_iff (w1 := w1) (c := c) (dy := dy) (wyB_n h.2.2.2) hw htk hdk
    by_cases e : sd c j < dy j k
    · simp [e, ex, bI]
    · have b := ff_b (fun i => decide (sd c j < dy j i)) m (k + 1)
      have s : ff (fun i => decide (sd c j < dy j i)) (k + 1) m - k = (ff (fun i => decide (sd c j < dy j i)) (k + 1) m - (k + 1)) + 1 := by omega
      simp only [e, if_false, decide_false, Bool.false_eq_true, s, ex]
      by_cases e2 : dy j k < nv (mw (fun x => ex (nwsW nw w1 wt w3 c (tw j k) x) 0 n))
      · have : vA nw tw dy n w1 wt w3 c j k = false := Bool.eq_false_iff.mpr (fun q => hA.mpr q e2)
        rw [if_pos e2, this, Bool.false_or]
        cases ex (vB nw tw dy tl sd stn c j k) 0 J <;> simp [bI]
      · rw [if_neg e2, hA.mp e2]; rfl
/-- the order of the two searches does not matter -/
theorem rcV_swap (c j : Nat) : ex (fun i => vA nw tw dy n w1 wt w3 c j i || ex (vB nw tw dy tl sd stn c j i) 0 J) 0 (lim (dy j) (ns j) (sd c j)) = rcV nw J ns tw dy tl sd stn n w1 wt w3 c j := by
  apply Bool.eq_iff_iff.mpr
  unfold rcV vA vB cx
  simp only [Bool.or_eq_true, ex_iff, Bool.and_eq_true, decide_eq_true_eq]
  constructor
  · rintro ⟨i, h1, h2, ⟨k, k1, k2, k3, k4, k5⟩ | ⟨q, q1, q2, q3, q4, q5, q6⟩⟩
    · exact Or.inr ⟨k, k1, k2, k3, i, h1, h2, k4, k5⟩
    · exact Or.inl ⟨q, q1, q2, q3, q4, i, h1, h2, q5, q6⟩
  · rintro (⟨q, q1, q2, q3, q4, i, h1, h2, q5, q6⟩ | ⟨k, k1, k2, k3, i, h1, h2, k4, k5⟩)
    · exact ⟨i, h1, h2, Or.inr ⟨q, q1, q2, q3, q4, q5, q6⟩⟩
    · exact ⟨i, h1, h2, Or.inl ⟨k, k1, k2, k3, k4, k5⟩⟩
theorem r_void {I : Mem} {df mu : Int32} {mc : Int32} (h41 : I 8 0 0 41 = df) (h42 : I 8 0 0 42 = mu) (h43 : I 8 0 0 43 = mc) (hJ' : rJ I J ns tw dy) (hdy : Days dy J ns) (hT : twT J ns tw T) (h : rN I T rd gg nw) (hR : rR I 30 62 n w1 (fun k => nI (wt k)) w3) (hn5 : n ≤ 5) (hw : wdW n T wt w3) (hv : vR I C J tl sd stn gv) (hs : sdW C J T tl sd st stn) (hC : C ≤ 6) {c j : Nat} (hc : c < C) (hj : j < J) :
    f_X8_isVoided I (nI c) (nI j) = some (bI (tl c j && (!bt df j && ((decide (nI c = mc) && bt mu j) || rcV nw J ns tw dy tl sd stn n w1 wt w3 c j)))) := by
  have ⟨hJ, hJ5, hns, hst⟩ := hJ'
  have hn7 := (hns j hj).2
  obtain ⟨v1, v2⟩ := hv c hc j hj
  have e52 : tl c j = true → f_X8_isVoided_52 I (nI c) (nI j) (nI (5 * c + j)) = some (bI (rcV nw J ns tw dy tl sd stn n w1 wt w3 c j)) := by
    intro ht
    have := r_void_55 hJ' hdy hT h hR hn5 hw hv hs hC hc hj ht (ns j) FU 0 (by omega) (by unfold FU; omega)
    rw [← rcV_swap]
    exact this
  unfold f_X8_isVoided
  rw [n_5, idx_n, bnd_e, gd_t (inb_n (by omega)), nI_clamp (by omega), v1, h41, h42, h43, ssh1 (by omega), ssh1 (by omega)]
  cases et : tl c j
  · rfl
  · rw [if_neg (by cases gv c j <;> decide), e52 et]
    cases bt df j
    · rw [if_neg (by decide)]
      by_cases e : nI c = mc
      · rw [if_pos e, decide_eq_true e]
        cases bt mu j
        · rw [if_neg (by decide)]; simp
        · rfl
      · rw [if_neg e, decide_eq_false e]; simp
    · rfl
end
