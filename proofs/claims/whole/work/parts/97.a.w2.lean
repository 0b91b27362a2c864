/-! two programs side by side -/
def W2 {α β : Type} (x : Option α) (y : Option β) (Q : α → β → Prop) : Prop := ∃ a b, x = some a ∧ y = some b ∧ Q a b
section
variable {α β γ δ : Type} {x : Option α} {y : Option β} {o : Option δ} {k : α → Option γ} {m : β → Option δ} {Q : γ → δ → Prop}
theorem w2_some {a : γ} {b : δ} (h : Q a b) : W2 (some a) (some b) Q := ⟨a, b, rfl, rfl, h⟩
theorem w2_bb {R : α → β → Prop} (h : W2 x y R) (hk : ∀ a b, R a b → W2 (k a) (m b) Q) : W2 (x.bind k) (y.bind m) Q := by
  obtain ⟨a, b, e, e', h⟩ := h
  rw [e, e']; exact hk a b h
theorem w2_l {R : α → Prop} (h : wp x R) (hk : ∀ a, R a → W2 (k a) o Q) : W2 (x.bind k) o Q := by
  obtain ⟨a, e, h⟩ := h
  rw [e]; exact hk a h
theorem w2_r {o : Option γ} {R : β → Prop} (h : wp y R) (hk : ∀ a, R a → W2 o (m a) Q) : W2 o (y.bind m) Q := by
  obtain ⟨a, e, h⟩ := h
  rw [e]; exact hk a h
theorem w2_lE (a : α) (e : x = some a) (hk : W2 (k a) o Q) : W2 (x.bind k) o Q := by rw [e]; exact hk
theorem w2_rE {o : Option γ} (a : β) (e : y = some a) (hk : W2 o (m a) Q) : W2 o (y.bind m) Q := by rw [e]; exact hk
end
section
variable {γ δ : Type} {x y : Option γ} {u v : Option δ} {Q : γ → δ → Prop}
theorem w2_gdl {b : Bool} (hb : b = true) (h : W2 x u Q) : W2 (gd b x) u Q := by unfold gd; rw [if_pos hb]; exact h
theorem w2_gdr {b : Bool} (hb : b = true) (h : W2 x u Q) : W2 x (gd b u) Q := by unfold gd; rw [if_pos hb]; exact h
theorem w2_pl {c : Prop} [Decidable c] (h : c) (q : W2 x u Q) : W2 (if c then x else y) u Q := by rw [if_pos h]; exact q
theorem w2_nl {c : Prop} [Decidable c] (h : ¬ c) (q : W2 y u Q) : W2 (if c then x else y) u Q := by rw [if_neg h]; exact q
theorem w2_pr {c : Prop} [Decidable c] (h : c) (q : W2 x u Q) : W2 x (if c then u else v) Q := by rw [if_pos h]; exact q
theorem w2_nr {c : Prop} [Decidable c] (h : ¬ c) (q : W2 x v Q) : W2 x (if c then u else v) Q := by rw [if_neg h]; exact q
theorem w2_itel {c : Prop} [Decidable c] (ht : c → W2 x u Q) (hf : ¬ c → W2 y u Q) : W2 (if c then x else y) u Q := by
  by_cases h : c
  · rw [if_pos h]; exact ht h
  · rw [if_neg h]; exact hf h
theorem w2_mono {R : γ → δ → Prop} (h : W2 x u R) (hq : ∀ a b, R a b → Q a b) : W2 x u Q := by
  obtain ⟨a, b, e, e', h⟩ := h
  exact ⟨a, b, e, e', hq a b h⟩
theorem w2_sp {Q1 : γ → Prop} {Q2 : δ → Prop} (hx : wp x Q1) (hy : wp u Q2) (h : ∀ a b, Q1 a → Q2 b → Q a b) : W2 x u Q := by
  obtain ⟨a, e, h1⟩ := hx
  obtain ⟨b, e', h2⟩ := hy
  exact ⟨a, b, e, e', h a b h1 h2⟩
theorem w2_wp {Q : γ → Prop} (h : W2 x u (fun a _ => Q a)) : wp x Q := by
  obtain ⟨a, b, e, e', h⟩ := h
  exact ⟨a, e, h⟩
end
/-! bytes -/
def knd (x : Nat) : Nat := if 97 ≤ x ∧ x ≤ 122 then 1 else if 48 ≤ x ∧ x ≤ 57 then 2 else if x = 59 ∨ x = 40 ∨ x = 41 ∨ x = 43 ∨ x = 45 ∨ x = 42 ∨ x = 47 ∨ x = 60 ∨ x = 61 then 3 else 4
theorem knd_t : ∀ x, x < 256 → f_X5_kindOf (fun _ _ _ _ => 0) (sb x) = some (nI (knd x)) := by decide +kernel
theorem c_kind {I : Mem} {x : Nat} (h : x < 256) : f_X5_kindOf I (sb x) = some (nI (knd x)) := knd_t x h
theorem let_t : ∀ x, x < 256 → f_X8_isLetter (fun _ _ _ _ => 0) (nI x) = some (bI (decide (knd x = 1))) := by decide +kernel
theorem dig_t : ∀ x, x < 256 → f_X8_isDigit (fun _ _ _ _ => 0) (nI x) = some (bI (decide (knd x = 2))) := by decide +kernel
theorem mrk_t : ∀ x, x < 256 → f_X8_isMark (fun _ _ _ _ => 0) (nI x) = some (bI (decide (knd x = 3))) := by decide +kernel
theorem r_let {I : Mem} {x : Nat} (h : x < 256) : f_X8_isLetter I (nI x) = some (bI (decide (knd x = 1))) := let_t x h
theorem r_dig {I : Mem} {x : Nat} (h : x < 256) : f_X8_isDigit I (nI x) = some (bI (decide (knd x = 2))) := dig_t x h
theorem r_mrk {I : Mem} {x : Nat} (h : x < 256) : f_X8_isMark I (nI x) = some (bI (decide (knd x = 3))) := mrk_t x h
theorem r_letm {I : Mem} : f_X8_isLetter I (-1) = some 0 := by unfold f_X8_isLetter; rw [if_pos (by decide)]
theorem r_digm {I : Mem} : f_X8_isDigit I (-1) = some 0 := by unfold f_X8_isDigit; rw [if_pos (by decide)]
theorem sb_toInt {x : Nat} (h : x < 256) : (sb x).toInt = if x < 128 then (x : Int) else (x : Int) - 256 := by
  unfold sb
  split
  · exact nI_toInt (by omega)
  · exact pk_sub_toInt (a := x) (b := 256) (by omega) (by omega)
theorem sb_eq {x y : Nat} (hx : x < 256) (hy : y < 128) : sb x = nI y ↔ x = y := by
  rw [fa_eq, sb_toInt hx, nI_toInt (by omega)]
  split <;> omega
theorem sb_n {x : Nat} (h : x < 128) : sb x = nI x := if_pos h
theorem knd_dig {x : Nat} (h : knd x = 2) : 48 ≤ x ∧ x ≤ 57 := by
  unfold knd at h
  split at h
  · omega
  · split at h
    · assumption
    · split at h <;> omega
theorem knd_let {x : Nat} (h : knd x = 1) : 97 ≤ x ∧ x ≤ 122 := by
  unfold knd at h
  split at h
  · assumption
  · split at h
    · omega
    · split at h <;> omega
theorem knd_b (x : Nat) : 1 ≤ knd x ∧ knd x ≤ 4 := by
  unfold knd
  split
  · omega
  · split
    · omega
    · split <;> omega
theorem knd_32 : knd 32 = 4 := rfl
theorem knd_10 : knd 10 = 4 := rfl
/-! tokens -/
def bl (x : Nat) : Bool := decide (x = 32) || decide (x = 10)
section
variable (n : Nat) (tb : Nat → Nat)
def tB (e : Nat) : Nat := ff (fun i => !bl (tb i)) e (n - e)
def tK (b : Nat) : Nat := if b < n then knd (tb b) else 0
def tX (k i : Nat) : Nat := ff (fun i => decide (knd (tb i) ≠ k)) i (n - i)
def tE (b : Nat) : Nat := if b < n then (if knd (tb b) = 1 ∨ knd (tb b) = 2 then tX n tb (knd (tb b)) (b + 1) else b + 1) else b
def dv (b : Nat) : Nat → Nat
  | 0 => 0
  | m + 1 => min 100000 (10 * dv b m + (tb (b + m) - 48))
/-- the class's token; the reference's -/
def tpC (I : Mem) : Prop := I 5 0 0 3 = nI n ∧ ∀ i, i < n → I 47 0 0 i = sb (tb i)
def tpR (I : Mem) : Prop := I 8 0 0 16 = nI n ∧ ∀ i, i < n → I 60 0 0 i = nI (tb i)
def tkC (I : Mem) (b e k : Nat) : Prop := I 5 0 0 0 = 0 ∧ I 5 0 0 1 = -1 ∧ I 5 0 0 5 = nI k ∧ I 5 0 0 6 = nI b ∧ I 5 0 0 7 = nI e
def tkR (I : Mem) (b e k : Nat) : Prop := I 8 0 0 21 = 0 ∧ I 8 0 0 17 = nI k ∧ I 8 0 0 19 = nI b ∧ I 8 0 0 15 = nI e ∧ I 8 0 0 20 = nI e ∧ (k = 2 → I 8 0 0 18 = nI (dv tb b (e - b)))
/-- a token as it is -/
def tkO (b e k : Nat) : Prop := b ≤ n ∧ e ≤ n ∧ k = tK n tb b ∧ e = tE n tb b
end
def E5 (I I' : Mem) : Prop := (∀ c, c ≠ 5 → I' c = I c) ∧ ∀ f, f < 5 → I' 5 0 0 f = I 5 0 0 f
theorem E5.rfl {I : Mem} : E5 I I := ⟨fun _ _ => _root_.rfl, fun _ _ => _root_.rfl⟩
theorem E5.tr {I I' I'' : Mem} (h : E5 I I') (h2 : E5 I' I'') : E5 I I'' := ⟨fun c hc => (h2.1 c hc).trans (h.1 c hc), fun f hf => (h2.2 f hf).trans (h.2 f hf)⟩
theorem E5.up {I : Mem} {f : Nat} {v : Int32} (h : 5 ≤ f) : E5 I (upd4 I 5 0 0 f v) := ⟨fun c hc => u_c hc, fun g hg => u_ne (fun q => by omega)⟩
def fS (f : Nat) : Prop := f = 15 ∨ f = 17 ∨ f = 18 ∨ f = 19 ∨ f = 20
def E8 (I I' : Mem) : Prop := (∀ c, c ≠ 8 → I' c = I c) ∧ ∀ f, ¬ fS f → I' 8 0 0 f = I 8 0 0 f
theorem E8.rfl {I : Mem} : E8 I I := ⟨fun _ _ => _root_.rfl, fun _ _ => _root_.rfl⟩
theorem E8.tr {I I' I'' : Mem} (h : E8 I I') (h2 : E8 I' I'') : E8 I I'' := ⟨fun c hc => (h2.1 c hc).trans (h.1 c hc), fun f hf => (h2.2 f hf).trans (h.2 f hf)⟩
theorem E8.up {I : Mem} {f : Nat} {v : Int32} (h : fS f) : E8 I (upd4 I 8 0 0 f v) := ⟨fun c hc => u_c hc, fun g hg => u_ne (fun q => by obtain ⟨_, _, _, q⟩ := q; subst q; exact hg h)⟩
theorem tpC_e {n : Nat} {tb : Nat → Nat} {I I' : Mem} (h : tpC n tb I) (e : E5 I I') : tpC n tb I' := by
  unfold tpC at *
  rw [e.2 3 (by omega), e.1 47 (by omega)]; exact h
theorem tpR_e {n : Nat} {tb : Nat → Nat} {I I' : Mem} (h : tpR n tb I) (e : E8 I I') : tpR n tb I' := by
  unfold tpR at *
  rw [e.2 16 (by unfold fS; omega), e.1 60 (by omega)]; exact h
theorem u5 {I : Mem} {c f g : Nat} {v : Int32} : upd4 I c 0 0 f v c 0 0 g = if g = f then v else I c 0 0 g := by
  rw [u_if]
  by_cases e : g = f
  · rw [if_pos ⟨rfl, e⟩, if_pos e]
  · rw [if_neg (fun q => e q.2), if_neg e]
theorem jmin_n {a b : Nat} (ha : a < 2 ^ 31) (hb : b < 2 ^ 31) : jmin (nI a) (nI b) = nI (min a b) := by
  unfold jmin
  by_cases h : b < a
  · rw [if_pos ((nI_ltI hb ha).mpr h), Nat.min_eq_right (by omega)]
  · rw [if_neg (fun q => h ((nI_ltI hb ha).mp q)), Nat.min_eq_left (by omega)]
