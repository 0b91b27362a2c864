/-! the shortest ways -/
def cset (w : Nat → Nat → Int32) (a b : Nat) (v : Int32) : Nat → Nat → Int32 := fun x y => if x = a ∧ y = b then v else w x y
def cell (w : Nat → Nat → Int32) (by' a b : Nat) : Int32 :=
  if w a by' = -1 then w a b else if w by' b = -1 then w a b else if w a b = -1 then w a by' + w by' b else if w a b ≤ w a by' + w by' b then w a b else w a by' + w by' b
def fw3 (by' a : Nat) : Nat → Nat → (Nat → Nat → Int32) → Nat → Nat → Int32
  | _, 0, w => w
  | k, m + 1, w => fw3 by' a (k + 1) m (cset w a k (cell w by' a k))
def fw2 (T by' : Nat) : Nat → Nat → (Nat → Nat → Int32) → Nat → Nat → Int32
  | _, 0, w => w
  | a, m + 1, w => fw2 T by' (a + 1) m (fw3 by' a 0 T w)
def fw1 (T : Nat) : Nat → Nat → (Nat → Nat → Int32) → Nat → Nat → Int32
  | _, 0, w => w
  | b, m + 1, w => fw1 T (b + 1) m (fw2 T b 0 T w)
def okv (B : Nat) (x : Int32) : Prop := x = -1 ∨ ∃ n, n ≤ B ∧ x = nI n
def gw (T by' B : Nat) (w : Nat → Nat → Int32) : Prop := (∀ a b, a < T → b < T → okv (2 * B) (w a b)) ∧ (∀ a, a < T → okv B (w a by')) ∧ (∀ b, b < T → okv B (w by' b)) ∧ ∀ x, x < T → w x x = 0
def g0 (T B : Nat) (w : Nat → Nat → Int32) : Prop := (∀ a b, a < T → b < T → okv B (w a b)) ∧ ∀ x, x < T → w x x = 0
theorem okv_le {B B' : Nat} {x : Int32} (h : okv B x) (hB : B ≤ B') : okv B' x := by
  rcases h with h | ⟨n, h1, h2⟩
  · exact Or.inl h
  · exact Or.inr ⟨n, by omega, h2⟩
section
variable {T by' B : Nat} {w : Nat → Nat → Int32}
theorem cell_by (hB : B ≤ 5000) (hg : gw T by' B w) (hb : by' < T) {a : Nat} (ha : a < T) : cell w by' a by' = w a by' := by
  unfold cell
  have z : w by' by' = 0 := hg.2.2.2 by' hb
  rw [z]
  by_cases q : w a by' = -1
  · rw [if_pos q]
  · rw [if_neg q, if_neg (by decide), if_neg q, Int32.add_zero, if_pos (Int32.le_refl _)]
theorem cell_by' (hB : B ≤ 5000) (hg : gw T by' B w) (hb : by' < T) {b : Nat} (hb2 : b < T) : cell w by' by' b = w by' b := by
  unfold cell
  have z : w by' by' = 0 := hg.2.2.2 by' hb
  rw [z]
  by_cases q : w by' b = -1
  · rw [if_neg (by decide), if_pos q]
  · rw [if_neg (by decide), if_neg q, if_neg q, Int32.zero_add, if_pos (Int32.le_refl _)]
theorem cell_ok (hB : B ≤ 5000) (hg : gw T by' B w) {a b : Nat} (ha : a < T) (hb : b < T) : okv (2 * B) (cell w by' a b) := by
  unfold cell
  have h1 := hg.1 a b ha hb
  rcases hg.2.1 a ha with q | ⟨n, hn, q⟩
  · rw [if_pos q]; exact h1
  · rcases hg.2.2.1 b hb with q2 | ⟨n2, hn2, q2⟩
    · rw [if_pos q2]; split <;> exact h1
    · have s : w a by' + w by' b = nI (n + n2) := by rw [q, q2, nI_add]
      rw [s]
      split
      · exact h1
      · split
        · exact h1
        · split
          · exact Or.inr ⟨n + n2, by omega, rfl⟩
          · split
            · exact h1
            · exact Or.inr ⟨n + n2, by omega, rfl⟩
theorem gw_step (hB : B ≤ 5000) (hg : gw T by' B w) (hb : by' < T) {a k : Nat} (ha : a < T) (hk : k < T) : gw T by' B (cset w a k (cell w by' a k)) := by
  refine ⟨fun x y hx hy => ?_, fun x hx => ?_, fun y hy => ?_, fun x hx => ?_⟩
  · unfold cset; split
    · exact cell_ok hB hg ha hk
    · exact hg.1 x y hx hy
  · unfold cset; split
    · rename_i q; rw [← q.2, cell_by hB hg hb ha]; exact hg.2.1 a ha
    · exact hg.2.1 x hx
  · unfold cset; split
    · rename_i q; rw [← q.1, cell_by' hB hg hb hk]; exact hg.2.2.1 k hk
    · exact hg.2.2.1 y hy
  · unfold cset; split
    · rename_i q
      have : a = k := by omega
      subst this
      have z := hg.2.2.2 a ha
      unfold cell
      split
      · exact z
      · split
        · exact z
        · rw [z, if_neg (by decide)]
          rcases hg.2.1 a ha with q | ⟨n, hn, q⟩
          · contradiction
          · rcases hg.2.2.1 a ha with q2 | ⟨n2, hn2, q2⟩
            · contradiction
            · rw [q, q2, nI_add, if_pos (nI_pos' (by omega))]
    · exact hg.2.2.2 x hx
theorem fw3_gw (hB : B ≤ 5000) (hb : by' < T) {a : Nat} (ha : a < T) : ∀ m k w, k + m ≤ T → gw T by' B w → gw T by' B (fw3 by' a k m w)
  | 0, k, w, _, h => h
  | m + 1, k, w, hk, h => fw3_gw hB hb ha m (k + 1) _ (by omega) (gw_step hB h hb ha (by omega))
theorem fw2_gw (hB : B ≤ 5000) (hb : by' < T) : ∀ m a w, a + m ≤ T → gw T by' B w → gw T by' B (fw2 T by' a m w)
  | 0, a, w, _, h => h
  | m + 1, a, w, hk, h => fw2_gw hB hb m (a + 1) _ (by omega) (fw3_gw hB hb (by omega) T 0 w (by omega) h)
theorem g0_gw (h : g0 T B w) (hb : by' < T) : gw T by' B w := ⟨fun a b ha hb => okv_le (h.1 a b ha hb) (by omega), fun a ha => h.1 a by' ha hb, fun b hb2 => h.1 by' b hb hb2, h.2⟩
theorem fw1_g0 : ∀ m b B w, b + m ≤ T → g0 T B w → B * 2 ^ m ≤ 5000 → g0 T (B * 2 ^ m) (fw1 T b m w)
  | 0, b, B, w, _, h, _ => by rw [Nat.pow_zero, Nat.mul_one]; exact h
  | m + 1, b, B, w, hk, h, hB => by
    have p : 1 ≤ 2 ^ m := Nat.one_le_two_pow
    have e : B * 2 ^ (m + 1) = B * 2 * 2 ^ m := by rw [Nat.pow_succ, Nat.mul_assoc, Nat.mul_comm 2]
    rw [e] at hB ⊢
    have B5 : B * 2 ≤ 5000 := Nat.le_trans (Nat.le_mul_of_pos_right _ p) hB
    have g := fw2_gw (T := T) (by' := b) (B := B) (by omega) (by omega) T 0 w (by omega) (g0_gw h (by omega))
    exact fw1_g0 m (b + 1) (B * 2) _ (by omega) ⟨fun x y hx hy => okv_le (g.1 x y hx hy) (by omega), g.2.2.2⟩ hB
theorem fw3_cong {w w' : Nat → Nat → Int32} {a : Nat} (hb : by' < T) (ha : a < T) : ∀ m k, k + m ≤ T → ∀ w w' : Nat → Nat → Int32, (∀ x y, x < T → y < T → w x y = w' x y) → ∀ x y, x < T → y < T → fw3 by' a k m w x y = fw3 by' a k m w' x y
  | 0, k, _, w, w', h, x, y, hx, hy => h x y hx hy
  | m + 1, k, hk, w, w', h, x, y, hx, hy => by
    rw [fw3, fw3]
    refine fw3_cong (w := w) (w' := w') hb ha m (k + 1) (by omega) _ _ (fun x y hx hy => ?_) x y hx hy
    have c : cell w by' a k = cell w' by' a k := by unfold cell; rw [h a by' ha hb, h by' k hb (by omega), h a k ha (by omega)]
    unfold cset; rw [c, h x y hx hy]
theorem fw3_id {a : Nat} (hb : by' < T) (ha : a < T) : ∀ m k w, k + m ≤ T → w a by' = -1 → ∀ x y, x < T → y < T → fw3 by' a k m w x y = w x y
  | 0, k, w, _, h, x, y, hx, hy => rfl
  | m + 1, k, w, hk, h, x, y, hx, hy => by
    have c : cell w by' a k = w a k := by unfold cell; rw [if_pos h]
    have e : ∀ x y, cset w a k (cell w by' a k) x y = w x y := by
      intro x y; unfold cset; rw [c]; split
      · rename_i q; rw [q.1, q.2]
      · rfl
    rw [fw3, fw3_id hb ha m (k + 1) _ (by omega) (by rw [e]; exact h) x y hx hy, e]
/-! class -/
theorem c_sh12 {z : Nat} (hT : T ≤ 9) (hB : B ≤ 5000) (hb : by' < T) {a : Nat} (ha : a < T) {ah : Int32} : ∀ m fu k I w, k + m = T → m < fu → I 3 z 0 0 = nI T → (∀ x y, x < T → y < T → I 30 z x y = w x y) → gw T by' B w → w a by' = ah →
    wp (f_X3_shortenWaysBy_12 z fu I (nI by') (nI a) ah (nI k)) (fun I' => Fr [(30, z)] I I' ∧ ∀ x y, x < T → y < T → I' 30 z x y = fw3 by' a k m w x y) := by
  intro m
  induction m with
  | zero =>
    intro fu k I w hk hf h3 hw hg hah
    obtain ⟨g, rfl⟩ := Nat.exists_eq_succ_of_ne_zero (by omega : fu ≠ 0)
    unfold f_X3_shortenWaysBy_12
    exact wp_pos (by rw [h3]; exact nI_le (by omega) (by omega)) (wp_some ⟨Fr.rfl, hw⟩)
  | succ m ih =>
    intro fu k I w hk hf h3 hw hg hah
    obtain ⟨g, rfl⟩ := Nat.exists_eq_succ_of_ne_zero (by omega : fu ≠ 0)
    unfold f_X3_shortenWaysBy_12
    refine wp_neg (by rw [h3]; exact nI_ge (by omega) (by omega)) ?_
    refine wp_ite (fun q => wp_some ⟨Fr.rfl, fun x y hx hy => ?_⟩) (fun q => ?_)
    · rw [fw3_id hb ha (m + 1) k w (by omega) (hah.trans q) x y hx hy]; exact hw x y hx hy
    · have g' := gw_step hB hg hb ha (k := k) (by omega)
      have keepa : cset w a k (cell w by' a k) a by' = ah := by
        unfold cset; split
        · rename_i y; rw [← y.2, cell_by hB hg hb ha]; exact hah
        · exact hah
      refine wp_gd (inb_n (by omega)) (wp_gd (inb_n (by omega)) (wp_bnd ?_))
      rw [nI_clamp (by omega), nI_clamp (by omega), hw by' k hb (by omega), nI_1]
      have same : cell w by' a k = w a k → wp (f_X3_shortenWaysBy_12 z g I (nI by') (nI a) ah (nI (k + 1))) (fun I' => Fr [(30, z)] I I' ∧ ∀ x y, x < T → y < T → I' 30 z x y = fw3 by' a k (m + 1) w x y) := by
        intro c
        refine ih g (k + 1) I _ (by omega) (by omega) h3 (fun x y hx hy => ?_) g' keepa
        unfold cset; rw [c]; split
        · rename_i q; rw [q.1, q.2]; exact hw a k ha (by omega)
        · exact hw x y hx hy
      have qa : ¬ w a by' = -1 := fun y => q (hah ▸ y)
      refine wp_ite (fun q2 => same (by unfold cell; rw [if_neg qa, if_pos q2])) (fun q2 => wp_gd (inb_n (by omega)) ?_)
      rw [nI_clamp (by omega), hw a k ha (by omega)]
      have set' : cell w by' a k = ah + w by' k → wp (f_X3_shortenWaysBy_72 (f_X3_shortenWaysBy_12 z g) z I (nI by') (nI a) ah (nI k) (w by' k)) (fun I' => Fr [(30, z)] I I' ∧ ∀ x y, x < T → y < T → I' 30 z x y = fw3 by' a k (m + 1) w x y) := by
        intro c
        unfold f_X3_shortenWaysBy_72
        rw [nI_clamp (by omega), nI_clamp (by omega), nI_1]
        refine wp_gd (inb_n (by omega)) (wp_gd (inb_n (by omega)) (wp_bnd ?_))
        refine wp_mono (ih g (k + 1) _ _ (by omega) (by omega) (by rw [u_c (by omega)]; exact h3) (fun x y hx hy => ?_) g' keepa) (fun I' h => ⟨(Fr.up (by simp)).tr h.1, h.2⟩)
        rw [u_if]; unfold cset; rw [c]
        split
        · rfl
        · exact hw x y hx hy
      refine wp_ite (fun q3 => set' (by unfold cell; rw [if_neg qa, if_neg q2, if_pos q3, hah])) (fun q3 => ?_)
      refine wp_ite (fun q4 => same (by unfold cell; rw [if_neg qa, if_neg q2, if_neg q3, hah, if_pos q4])) (fun q4 => set' (by unfold cell; rw [if_neg qa, if_neg q2, if_neg q3, hah, if_neg q4]))
theorem c_mw82 {z : Nat} (hT : T ≤ 9) (hB : B ≤ 5000) (hb : by' < T) {k72 : Mem → Int32 → Option Mem} {Q : Mem → Prop} : ∀ m fu a I w, a + m = T → m < fu → I 3 z 0 0 = nI T → (∀ x y, x < T → y < T → I 30 z x y = w x y) → gw T by' B w →
    (∀ I', Fr [(30, z)] I I' → (∀ x y, x < T → y < T → I' 30 z x y = fw2 T by' a m w x y) → wp (k72 I' (nI (by' + 1))) Q) → wp (f_X3_measureWays_82 k72 z fu I (nI by') (nI a)) Q := by
  intro m
  induction m with
  | zero =>
    intro fu a I w ha hf h3 hw hg hq
    obtain ⟨g, rfl⟩ := Nat.exists_eq_succ_of_ne_zero (by omega : fu ≠ 0)
    unfold f_X3_measureWays_82
    rw [nI_1]
    exact wp_pos (by rw [h3]; exact nI_le (by omega) (by omega)) (hq I Fr.rfl hw)
  | succ m ih =>
    intro fu a I w ha hf h3 hw hg hq
    obtain ⟨g, rfl⟩ := Nat.exists_eq_succ_of_ne_zero (by omega : fu ≠ 0)
    unfold f_X3_measureWays_82
    refine wp_neg (by rw [h3]; exact nI_ge (by omega) (by omega)) ?_
    refine wp_bind (R := fun I' => Fr [(30, z)] I I' ∧ ∀ x y, x < T → y < T → I' 30 z x y = fw3 by' a 0 T w x y) ?_ (fun I1 h => ?_)
    · unfold f_X3_shortenWaysBy
      refine wp_gd (inb_n (by omega)) (wp_gd (inb_n (by omega)) (wp_bnd ?_))
      rw [nI_clamp (by omega), nI_clamp (by omega), hw a by' (by omega) hb, n_0]
      exact c_sh12 hT hB hb (by omega) T FU 0 I w (by omega) (by unfold FU; omega) h3 hw hg rfl
    · rw [nI_1]
      exact ih g (a + 1) I1 _ (by omega) (by omega) (by rw [h.1.g (c := 3) (by simp)]; exact h3) h.2 (fw3_gw hB hb (by omega) T 0 w (by omega) hg) (fun I' F h' => hq I' (h.1.tr F) h')
theorem c_mw72 {z : Nat} (hT : T ≤ 9) {Q : Mem → Prop} : ∀ m fu b I w B, b + m = T → m < fu → I 3 z 0 0 = nI T → (∀ x y, x < T → y < T → I 30 z x y = w x y) → g0 T B w → B * 2 ^ m ≤ 5000 →
    (∀ I', Fr [(30, z)] I I' → (∀ x y, x < T → y < T → I' 30 z x y = fw1 T b m w x y) → wp (f_X3_measureWays_110 z FU I' 0) Q) → wp (f_X3_measureWays_72 z fu I (nI b)) Q := by
  intro m
  induction m with
  | zero =>
    intro fu b I w B hb hf h3 hw hg hB hq
    obtain ⟨g, rfl⟩ := Nat.exists_eq_succ_of_ne_zero (by omega : fu ≠ 0)
    unfold f_X3_measureWays_72
    exact wp_pos (by rw [h3]; exact nI_le (by omega) (by omega)) (hq I Fr.rfl hw)
  | succ m ih =>
    intro fu b I w B hb hf h3 hw hg hB hq
    obtain ⟨g, rfl⟩ := Nat.exists_eq_succ_of_ne_zero (by omega : fu ≠ 0)
    have p : 1 ≤ 2 ^ m := Nat.one_le_two_pow
    have e : B * 2 ^ (m + 1) = B * 2 * 2 ^ m := by rw [Nat.pow_succ, Nat.mul_assoc, Nat.mul_comm 2]
    rw [e] at hB
    have B5 : B * 2 ≤ 5000 := Nat.le_trans (Nat.le_mul_of_pos_right _ p) hB
    unfold f_X3_measureWays_72
    refine wp_neg (by rw [h3]; exact nI_ge (by omega) (by omega)) ?_
    rw [n_0]
    refine c_mw82 hT (B := B) (by omega) (by omega) T FU 0 I w (by omega) (by unfold FU; omega) h3 hw (g0_gw hg (by omega)) (fun I1 F h => ?_)
    have gg := fw2_gw (T := T) (by' := b) (B := B) (by omega) (by omega) T 0 w (by omega) (g0_gw hg (by omega))
    exact ih g (b + 1) I1 _ (B * 2) (by omega) (by omega) (by rw [F.g (c := 3) (by simp)]; exact h3) h ⟨fun x y hx hy => okv_le (gg.1 x y hx hy) (by omega), gg.2.2.2⟩ hB (fun I' F' h' => hq I' (F.tr F') h')
end
