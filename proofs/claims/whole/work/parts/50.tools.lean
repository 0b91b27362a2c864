/-! tools of the pure part: numbers and bits pasted from the kit's laws (NUMBERS, BITS), then my own -/
theorem fa_lt (a b : Int32) : a < b ↔ a.toInt < b.toInt := Int32.lt_iff_toInt_lt
theorem fa_le (a b : Int32) : a ≤ b ↔ a.toInt ≤ b.toInt := Int32.le_iff_toInt_le
theorem fa_eq (a b : Int32) : a = b ↔ a.toInt = b.toInt := Int32.toInt_inj.symm
theorem fa_of_lt {a b : Int32} (h : a < b) : a ≤ b ∧ ¬ b ≤ a ∧ ¬ b < a ∧ a ≠ b ∧ b ≠ a := by
  rw [fa_lt] at h
  refine ⟨?_, ?_, ?_, ?_, ?_⟩
  · rw [fa_le]; omega
  · rw [fa_le]; omega
  · rw [fa_lt]; omega
  · intro e; rw [fa_eq] at e; omega
  · intro e; rw [fa_eq] at e; omega
theorem fa_of_nlt {a b : Int32} (h : ¬ a < b) : b ≤ a := by
  rw [fa_lt] at h
  rw [fa_le]
  omega
theorem fa_of_nle {a b : Int32} (h : ¬ a ≤ b) : b < a := by
  rw [fa_le] at h
  rw [fa_lt]
  omega
theorem fa_le_ne {a b : Int32} (h : a ≤ b) (h2 : a ≠ b) : a < b := by
  rw [fa_le] at h
  rw [fa_lt]
  have h3 : a.toInt ≠ b.toInt := fun e => h2 ((fa_eq a b).mpr e)
  omega
theorem fa_three (a b : Int32) : a < b ∨ a = b ∨ b < a := by
  rw [fa_lt, fa_lt, fa_eq]
  omega
theorem fa_trans {a b c : Int32} (h : a < b) (h2 : b ≤ c) : a < c := by
  rw [fa_lt] at *
  rw [fa_le] at h2
  omega
/-! ===== small literals as numbers ===== -/
def bt (x : Int32) (i : Nat) : Bool := x.toBitVec.getLsbD i
theorem b_ext {x y : Int32} (h : ∀ i, i < 32 → bt x i = bt y i) : x = y := Int32.toBitVec_inj.mp (BitVec.eq_of_getLsbD_eq (fun i hi => h i hi))
theorem b_or (x y : Int32) (i : Nat) : bt (x ||| y) i = (bt x i || bt y i) := by unfold bt; rw [Int32.toBitVec_or, BitVec.getLsbD_or]
theorem b_and (x y : Int32) (i : Nat) : bt (x &&& y) i = (bt x i && bt y i) := by unfold bt; rw [Int32.toBitVec_and, BitVec.getLsbD_and]
theorem b_xor (x y : Int32) (i : Nat) : bt (x ^^^ y) i = (bt x i ^^ bt y i) := by unfold bt; rw [Int32.toBitVec_xor, BitVec.getLsbD_xor]
theorem b_big {x : Int32} {i : Nat} (h : 32 ≤ i) : bt x i = false := BitVec.getLsbD_of_ge _ _ h
theorem b_m1 : ∀ i, i < 32 → bt (-1) i = true := by decide +kernel
theorem b_0 (i : Nat) : bt 0 i = false := BitVec.getLsbD_zero
theorem s_l : ∀ n, n < 32 → ((nI n &&& 31).toBitVec.smod 32).toNat = n := by decide +kernel
theorem s_u : ∀ n, n < 32 → (((nI n).toUInt32 &&& Int32.toUInt32 31).toBitVec % 32).toNat = n := by decide +kernel
theorem b_shl (n : Nat) (hn : n < 32) (x : Int32) {i : Nat} (hi : i < 32) : bt (x <<< (nI n &&& 31)) i = (decide (n ≤ i) && bt x (i - n)) := by
  unfold bt
  rw [Int32.toBitVec_shiftLeft]
  show (x.toBitVec <<< ((nI n &&& 31).toBitVec.smod 32).toNat).getLsbD i = _
  rw [s_l n hn, BitVec.getLsbD_shiftLeft]
  rcases Nat.lt_or_ge i n with h | h
  · simp [h, Nat.not_le.mpr h]
  · simp [hi, h, Nat.not_lt.mpr h]
theorem b_ushr (n : Nat) (hn : n < 32) (x : Int32) (i : Nat) : bt ((x.toUInt32 >>> ((nI n).toUInt32 &&& Int32.toUInt32 31)).toInt32) i = bt x (n + i) := by
  show (x.toUInt32 >>> ((nI n).toUInt32 &&& Int32.toUInt32 31)).toBitVec.getLsbD i = x.toUInt32.toBitVec.getLsbD (n + i)
  rw [UInt32.toBitVec_shiftRight]
  show (x.toUInt32.toBitVec >>> (((nI n).toUInt32 &&& Int32.toUInt32 31).toBitVec % 32).toNat).getLsbD i = _
  rw [s_u n hn, BitVec.getLsbD_ushiftRight]
theorem b_sshr (n : Nat) (hn : n < 32) (x : Int32) {i : Nat} (hi : i < 32) : bt (x >>> (nI n &&& 31)) i = if n + i < 32 then bt x (n + i) else bt x 31 := by
  unfold bt
  rw [Int32.toBitVec_shiftRight]
  show (x.toBitVec.sshiftRight ((nI n &&& 31).toBitVec.smod 32).toNat).getLsbD i = _
  rw [s_l n hn, BitVec.getLsbD_sshiftRight, BitVec.msb_eq_getLsbD_last]
  simp [hi]
/-! weakest preconditions of the Option programs -/
def wp {α : Type} (o : Option α) (Q : α → Prop) : Prop := ∃ r, o = some r ∧ Q r
theorem wp_some {α : Type} {r : α} {Q : α → Prop} (h : Q r) : wp (some r) Q := ⟨r, rfl, h⟩
theorem wp_gd {α : Type} {b : Bool} {x : Option α} {Q : α → Prop} (hb : b = true) (h : wp x Q) : wp (gd b x) Q := by
  unfold gd; rw [if_pos hb]; exact h
theorem wp_bnd {α β : Type} {x : α} {k : α → Option β} {Q : β → Prop} (h : wp (k x) Q) : wp (bnd x k) Q := h
theorem wp_bind {α β : Type} {x : Option α} {k : α → Option β} {R : α → Prop} {Q : β → Prop} (hx : wp x R) (hk : ∀ y, R y → wp (k y) Q) : wp (x.bind k) Q := by
  obtain ⟨y, e, h⟩ := hx
  rw [e]; exact hk y h
theorem wp_bindE {α β : Type} {x : Option α} {k : α → Option β} {Q : β → Prop} (y : α) (hx : x = some y) (hk : wp (k y) Q) : wp (x.bind k) Q := by
  rw [hx]; exact hk
theorem wp_ite {α : Type} {c : Prop} [Decidable c] {x y : Option α} {Q : α → Prop} (ht : c → wp x Q) (hf : ¬ c → wp y Q) : wp (if c then x else y) Q := by
  by_cases h : c
  · rw [if_pos h]; exact ht h
  · rw [if_neg h]; exact hf h
theorem wp_pos {α : Type} {c : Prop} [Decidable c] {x y : Option α} {Q : α → Prop} (h : c) (ht : wp x Q) : wp (if c then x else y) Q := by rw [if_pos h]; exact ht
theorem wp_neg {α : Type} {c : Prop} [Decidable c] {x y : Option α} {Q : α → Prop} (h : ¬ c) (ht : wp y Q) : wp (if c then x else y) Q := by rw [if_neg h]; exact ht
theorem wp_mono {α : Type} {o : Option α} {R Q : α → Prop} (h : wp o R) (hq : ∀ r, R r → Q r) : wp o Q := by
  obtain ⟨r, e, h⟩ := h
  exact ⟨r, e, hq r h⟩
theorem wp_of {α : Type} {o : Option α} {v : α} {Q : α → Prop} (h : o = some v) (q : Q v) : wp o Q := ⟨v, h, q⟩
theorem wp_eq {α : Type} {o : Option α} {v : α} : wp o (fun r => r = v) ↔ o = some v := by
  constructor
  · rintro ⟨r, e, rfl⟩; exact e
  · intro h; exact ⟨v, h, rfl⟩
theorem gd_t {α : Type} {b : Bool} {x : Option α} (hb : b = true) : gd b x = x := if_pos hb
theorem bnd_e {α β : Type} {x : α} {k : α → β} : bnd x k = k x := rfl
/-! numbers -/
theorem inb_n {k n : Nat} (h : k < n) (hn : n < 2 ^ 31 := by omega) : inb (nI k) n = true := by
  unfold inb
  rw [nI_toInt (by omega)]
  exact decide_eq_true (by omega)
theorem cl_n {k : Nat} (h : k < 2 ^ 31 := by omega) : (nI k).toNatClampNeg = k := nI_clamp h
theorem dlt {a b : Nat} (h : a < b) : decide (a < b) = true := decide_eq_true h
theorem n_3 : (3 : Int32) = nI 3 := rfl
theorem n_5 : (5 : Int32) = nI 5 := rfl
theorem n_7 : (7 : Int32) = nI 7 := rfl
theorem n_9 : (9 : Int32) = nI 9 := rfl
theorem n_0 : (0 : Int32) = nI 0 := rfl
theorem n_1 : (1 : Int32) = nI 1 := rfl
theorem nI_ni {n : Nat} (h : n < 2 ^ 31 := by omega) : ¬ nI n = (-1 : Int32) := by
  intro e
  have := congrArg Int32.toInt e
  rw [nI_toInt h] at this
  have z : (-1 : Int32).toInt = -1 := rfl
  omega
theorem nleI {a b : Nat} (ha : a < 2 ^ 31 := by omega) (hb : b < 2 ^ 31 := by omega) : nI a ≤ nI b ↔ a ≤ b := nI_leI ha hb
theorem nltI {a b : Nat} (ha : a < 2 ^ 31 := by omega) (hb : b < 2 ^ 31 := by omega) : nI a < nI b ↔ a < b := nI_ltI ha hb
theorem neqI {a b : Nat} (ha : a < 2 ^ 31 := by omega) (hb : b < 2 ^ 31 := by omega) : nI a = nI b ↔ a = b := nI_eq ha hb
theorem idx_n (a j i : Nat) : nI a * nI j + nI i = nI (a * j + i) := by rw [pk_mul, nI_add]
/-! frames: what a part of the program leaves as it was; S lists (component, instance) -/
def Fr (S : List (Nat × Nat)) (I I' : Mem) : Prop := ∀ c z, (c, z) ∈ S ∨ I' c z = I c z
theorem Fr.rfl {S : List (Nat × Nat)} {I : Mem} : Fr S I I := fun _ _ => Or.inr _root_.rfl
theorem Fr.tr {S : List (Nat × Nat)} {I I' I'' : Mem} (h : Fr S I I') (h2 : Fr S I' I'') : Fr S I I'' := fun c z => by
  rcases h c z with h | h
  · exact Or.inl h
  · rcases h2 c z with h2 | h2
    · exact Or.inl h2
    · exact Or.inr (h2.trans h)
theorem Fr.g {S : List (Nat × Nat)} {I I' : Mem} (h : Fr S I I') {c z : Nat} (hc : ¬ (c, z) ∈ S) : I' c z = I c z := (h c z).resolve_left hc
theorem Fr.sub {S S' : List (Nat × Nat)} {I I' : Mem} (h : Fr S I I') (hs : ∀ x, x ∈ S → x ∈ S') : Fr S' I I' := fun c z => (h c z).imp (hs _) id
theorem Fr.up {S : List (Nat × Nat)} {I : Mem} {c z r i : Nat} {v : Int32} (h : (c, z) ∈ S) : Fr S I (upd4 I c z r i v) := fun c' z' => by
  by_cases e : c' = c ∧ z' = z
  · obtain ⟨rfl, rfl⟩ := e; exact Or.inl h
  · refine Or.inr (funext fun r' => funext fun i' => ?_)
    unfold upd4
    rw [if_neg (fun q => e ⟨q.1, q.2.1⟩)]
theorem Fr.upR {S : List (Nat × Nat)} {I : Mem} {c z r : Nat} {f : Nat → Int32} (h : (c, z) ∈ S) : Fr S I (updR I c z r f) := fun c' z' => by
  by_cases e : c' = c ∧ z' = z
  · obtain ⟨rfl, rfl⟩ := e; exact Or.inl h
  · refine Or.inr (funext fun r' => ?_)
    unfold updR
    rw [if_neg (fun q => e ⟨q.1, q.2.1⟩)]
theorem u_at {I : Mem} {c z r i : Nat} {v : Int32} : upd4 I c z r i v c z r i = v := if_pos ⟨rfl, rfl, rfl, rfl⟩
theorem u_ne {I : Mem} {c z r i c' z' r' i' : Nat} {v : Int32} (h : ¬ (c' = c ∧ z' = z ∧ r' = r ∧ i' = i)) : upd4 I c z r i v c' z' r' i' = I c' z' r' i' := if_neg h
theorem u_c {I : Mem} {c z r i c' : Nat} {v : Int32} (h : c' ≠ c) : upd4 I c z r i v c' = I c' := by
  funext z' r' i'
  exact if_neg (fun q => h q.1)
theorem u_if {I : Mem} {c z r i r' i' : Nat} {v : Int32} : upd4 I c z r i v c z r' i' = if r' = r ∧ i' = i then v else I c z r' i' := by
  unfold upd4
  by_cases e : r' = r ∧ i' = i
  · rw [if_pos e, if_pos ⟨rfl, rfl, e.1, e.2⟩]
  · rw [if_neg e, if_neg (fun q => e ⟨q.2.2.1, q.2.2.2⟩)]
/-! forward searches, counts, sets of bits -/
def ff (p : Nat → Bool) : Nat → Nat → Nat
  | k, 0 => k
  | k, m + 1 => if p k then k else ff p (k + 1) m
theorem ff_b (p : Nat → Bool) : ∀ m k, k ≤ ff p k m ∧ ff p k m ≤ k + m
  | 0, k => ⟨Nat.le_refl k, Nat.le_refl k⟩
  | m + 1, k => by
    have ih := ff_b p m (k + 1)
    unfold ff
    split <;> omega
theorem ff_no (p : Nat → Bool) : ∀ m k i, k ≤ i → i < ff p k m → p i = false
  | 0, k, i, h, h2 => by unfold ff at h2; omega
  | m + 1, k, i, h, h2 => by
    unfold ff at h2
    split at h2
    · omega
    · rename_i h3
      by_cases e : i = k
      · subst e; exact Bool.eq_false_iff.mpr h3
      · exact ff_no p m (k + 1) i (by omega) h2
theorem ff_yes (p : Nat → Bool) : ∀ m k, ff p k m < k + m → p (ff p k m) = true
  | 0, k, h => by unfold ff at h; omega
  | m + 1, k, h => by
    unfold ff at h ⊢
    split
    · assumption
    · rename_i h3
      rw [if_neg h3] at h
      exact ff_yes p m (k + 1) (by omega)
theorem ff_is (p : Nat → Bool) {k m i : Nat} (h : k ≤ i) (hi : i < k + m) (hp : p i = true) (hn : ∀ i', k ≤ i' → i' < i → p i' = false) : ff p k m = i := by
  have a := ff_b p m k
  rcases Nat.lt_trichotomy (ff p k m) i with q | q | q
  · have := ff_yes p m k (by omega)
    rw [hn _ a.1 q] at this; cases this
  · exact q
  · have := ff_no p m k i h q
    rw [hp] at this; cases this
theorem ff_none (p : Nat → Bool) {k m : Nat} (hn : ∀ i, k ≤ i → i < k + m → p i = false) : ff p k m = k + m := by
  have a := ff_b p m k
  by_cases q : ff p k m < k + m
  · have := ff_yes p m k q
    rw [hn _ a.1 q] at this; cases this
  · omega
theorem ff_cong {p q : Nat → Bool} : ∀ {m k : Nat}, (∀ i, k ≤ i → i < k + m → p i = q i) → ff p k m = ff q k m
  | 0, k, _ => rfl
  | m + 1, k, h => by
    unfold ff
    rw [h k (Nat.le_refl k) (by omega), ff_cong (fun i a b => h i (by omega) (by omega))]
theorem ff_lt {p : Nat → Bool} {k m : Nat} : ff p k m < k + m ↔ ∃ i, k ≤ i ∧ i < k + m ∧ p i = true := by
  constructor
  · intro h; exact ⟨_, (ff_b p m k).1, h, ff_yes p m k h⟩
  · rintro ⟨i, a, b, c⟩
    by_cases q : ff p k m < k + m
    · exact q
    · have := ff_no p m k i a (by omega)
      rw [c] at this; cases this
def cn (p : Nat → Bool) : Nat → Nat → Nat
  | _, 0 => 0
  | k, m + 1 => (if p k then 1 else 0) + cn p (k + 1) m
theorem cn_le (p : Nat → Bool) : ∀ m k, cn p k m ≤ m
  | 0, k => Nat.le_refl _
  | m + 1, k => by
    have ih := cn_le p m (k + 1)
    unfold cn
    split <;> omega
theorem cn_cong {p q : Nat → Bool} : ∀ {m k : Nat}, (∀ i, k ≤ i → i < k + m → p i = q i) → cn p k m = cn q k m
  | 0, k, _ => rfl
  | m + 1, k, h => by
    unfold cn
    rw [h k (Nat.le_refl k) (by omega), cn_cong (fun i a b => h i (by omega) (by omega))]
def ex (p : Nat → Bool) : Nat → Nat → Bool
  | _, 0 => false
  | k, m + 1 => p k || ex p (k + 1) m
theorem ex_iff (p : Nat → Bool) : ∀ {m k : Nat}, ex p k m = true ↔ ∃ i, k ≤ i ∧ i < k + m ∧ p i = true
  | 0, k => by
    unfold ex
    constructor
    · intro h; cases h
    · rintro ⟨i, a, b, _⟩; omega
  | m + 1, k => by
    unfold ex
    rw [Bool.or_eq_true, ex_iff p]
    constructor
    · rintro (h | ⟨i, a, b, c⟩)
      · exact ⟨k, Nat.le_refl k, by omega, h⟩
      · exact ⟨i, by omega, by omega, c⟩
    · rintro ⟨i, a, b, c⟩
      by_cases e : i = k
      · subst e; exact Or.inl c
      · exact Or.inr ⟨i, by omega, by omega, c⟩
theorem ex_cong {p q : Nat → Bool} : ∀ {m k : Nat}, (∀ i, k ≤ i → i < k + m → p i = q i) → ex p k m = ex q k m
  | 0, k, _ => rfl
  | m + 1, k, h => by
    unfold ex
    rw [h k (Nat.le_refl k) (by omega), ex_cong (fun i a b => h i (by omega) (by omega))]
def bI (b : Bool) : Int32 := if b then 1 else 0
theorem bI_0 {b : Bool} : bI b = 0 ↔ b = false := by cases b <;> decide
def bs (p : Nat → Bool) : Nat → Nat → Int32 → Int32
  | _, 0, a => a
  | k, m + 1, a => bs p (k + 1) m (if p k then a ||| jshl 1 (nI k) else a)
theorem bt_1 {n i : Nat} (hn : n < 32) (hi : i < 32) : bt (jshl 1 (nI n)) i = decide (i = n) := by
  unfold jshl
  rw [b_shl n hn 1 hi]
  have h1 : ∀ j, j < 32 → bt 1 j = decide (j = 0) := by decide +kernel
  rw [h1 (i - n) (by omega)]
  by_cases e : i = n
  · subst e; simp
  · rw [decide_eq_false e]
    by_cases q : n ≤ i
    · rw [decide_eq_false (by omega : ¬ (i - n = 0)), Bool.and_false]
    · rw [decide_eq_false q, Bool.false_and]
theorem bt_bs (p : Nat → Bool) : ∀ m k a i, k + m ≤ 32 → i < 32 → bt (bs p k m a) i = (bt a i || (decide (k ≤ i) && decide (i < k + m) && p i))
  | 0, k, a, i, _, _ => by
    unfold bs
    by_cases h : k ≤ i
    · rw [decide_eq_false (by omega : ¬ i < k + 0)]; simp
    · rw [decide_eq_false h]; simp
  | m + 1, k, a, i, h, hi => by
    unfold bs
    rw [bt_bs p m (k + 1) _ i (by omega) hi]
    by_cases e : i = k
    · subst e
      rw [decide_eq_false (by omega : ¬ i + 1 ≤ i), decide_eq_true (Nat.le_refl i), decide_eq_true (by omega : i < i + (m + 1))]
      cases hp : p i
      · simp
      · simp only [if_true, b_or, bt_1 hi hi]; simp
    · have h1 : bt (if p k = true then a ||| jshl 1 (nI k) else a) i = bt a i := by
        split
        · rw [b_or, bt_1 (by omega) hi, decide_eq_false e, Bool.or_false]
        · rfl
      rw [h1]
      by_cases q : k ≤ i
      · rw [decide_eq_true q, decide_eq_true (by omega : k + 1 ≤ i), Nat.add_assoc k 1 m, Nat.add_comm 1 m]
      · rw [decide_eq_false q, decide_eq_false (by omega : ¬ k + 1 ≤ i), Bool.false_and, Bool.false_and, Bool.false_and, Bool.false_and]
theorem bt_not {x : Int32} {i : Nat} (hi : i < 32) : bt (x ^^^ (-1)) i = !bt x i := by
  rw [b_xor, b_m1 i hi]; cases bt x i <;> rfl
theorem ush1 {x : Int32} {j : Nat} (hj : j < 32) : jushr x (nI j) &&& 1 = bI (bt x j) := by
  apply b_ext
  intro i hi
  have h1 : ∀ j, j < 32 → bt 1 j = decide (j = 0) := by decide +kernel
  unfold jushr
  rw [b_and, b_ushr j hj, h1 i hi]
  by_cases e : i = 0
  · subst e
    rw [Nat.add_zero]
    cases bt x j <;> rfl
  · rw [decide_eq_false e, Bool.and_false]
    unfold bI
    split
    · rw [h1 i hi, decide_eq_false e]
    · rw [b_0]
theorem ssh1 {x : Int32} {j : Nat} (hj : j < 32) : jshr x (nI j) &&& 1 = bI (bt x j) := by
  apply b_ext
  intro i hi
  have h1 : ∀ j, j < 32 → bt 1 j = decide (j = 0) := by decide +kernel
  unfold jshr
  rw [b_and, b_sshr j hj x hi, h1 i hi]
  by_cases e : i = 0
  · subst e
    rw [Nat.add_zero, if_pos hj]
    cases bt x j <;> rfl
  · rw [decide_eq_false e, Bool.and_false]
    unfold bI
    split
    · rw [h1 i hi, decide_eq_false e]
    · rw [b_0]
