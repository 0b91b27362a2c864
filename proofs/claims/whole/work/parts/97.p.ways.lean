/-! the shortest ways: beginning, news; the reference -/
def v0w (rm : Nat → Nat → Int32) (a b : Nat) : Int32 := if a = b then 0 else if rm a b ≤ 0 then -1 else rm a b
def nww (w : Nat → Nat → Int32) (g : Int32) (a b : Nat) : Int32 := if w a b = -1 then -1 else (w a b * g + 9) / 10
section
variable {T : Nat} {rm : Nat → Nat → Int32}
theorem c_mw12 {z : Nat} (hT : T ≤ 9) {k2 : Mem → Int32 → Option Mem} {Q : Mem → Prop} {a : Nat} (ha : a < T) : ∀ m fu k I, k + m = T → m < fu → I 3 z 0 0 = nI T → (∀ x y, x < 9 → y < 9 → I 28 z x y = rm x y) → (∀ x y, x < T → y < T → (x < a ∨ x = a ∧ y < k) → I 30 z x y = v0w rm x y) →
    (∀ I', Fr [(30, z)] I I' → (∀ x y, x < T → y < T → x < a + 1 → I' 30 z x y = v0w rm x y) → wp (k2 I' (nI (a + 1))) Q) → wp (f_X3_measureWays_12 k2 z fu I (nI a) (nI k)) Q := by
  intro m
  induction m with
  | zero =>
    intro fu k I hk hf h3 hr hw hq
    obtain ⟨g, rfl⟩ := Nat.exists_eq_succ_of_ne_zero (by omega : fu ≠ 0)
    unfold f_X3_measureWays_12
    rw [nI_1]
    exact wp_pos (by rw [h3]; exact nI_le (by omega) (by omega)) (hq I Fr.rfl (fun x y hx hy h => hw x y hx hy (by omega)))
  | succ m ih =>
    intro fu k I hk hf h3 hr hw hq
    obtain ⟨g, rfl⟩ := Nat.exists_eq_succ_of_ne_zero (by omega : fu ≠ 0)
    have go : ∀ v, v = v0w rm a k → wp (f_X3_measureWays_12 k2 z g (upd4 I 30 z a k v) (nI a) (nI (k + 1))) Q := by
      intro v hv
      refine ih g (k + 1) _ (by omega) (by omega) (by rw [u_c (by omega)]; exact h3) (fun x y hx hy => by rw [u_c (by omega)]; exact hr x y hx hy) (fun x y hx hy h => ?_) (fun I' F h => hq I' ((Fr.up (by simp)).tr F) h)
      rw [u_if]
      by_cases q : x = a ∧ y = k
      · rw [if_pos q, q.1, q.2]; exact hv
      · rw [if_neg q]; exact hw x y hx hy (by omega)
    unfold f_X3_measureWays_12 f_X3_isJoined
    rw [nI_clamp (by omega), nI_clamp (by omega), nI_1 k]
    refine wp_neg (by rw [h3]; exact nI_ge (by omega) (by omega)) (wp_gd (inb_n (by omega)) ?_)
    by_cases q : a = k
    · refine wp_pos (by rw [q]) (wp_gd (inb_n (by omega)) (wp_bnd (go 0 ?_)))
      unfold v0w; rw [if_pos q]
    · refine wp_neg (by rw [nI_eq (by omega) (by omega)]; exact q) ?_
      have x1 := hr a k (by omega) (by omega)
      rw [gd_t (inb_n (by omega)), gd_t (inb_n (by omega))]
      by_cases q2 : rm a k ≤ 0
      · rw [if_pos (by rw [x1]; exact q2), Option.bind_some, if_pos rfl]
        refine wp_gd (inb_n (by omega)) (wp_bnd (go _ ?_))
        unfold v0w; rw [if_neg q, if_pos q2]
      · rw [if_neg (by rw [x1]; exact q2), Option.bind_some, if_neg (by decide)]
        refine wp_gd (inb_n (by omega)) (wp_bnd (go _ ?_))
        rw [x1]; unfold v0w; rw [if_neg q, if_neg q2]
theorem c_mw2 {z : Nat} (hT : T ≤ 9) {Q : Mem → Prop} : ∀ m fu a I, a + m = T → m < fu → I 3 z 0 0 = nI T → (∀ x y, x < 9 → y < 9 → I 28 z x y = rm x y) → (∀ x y, x < T → y < T → x < a → I 30 z x y = v0w rm x y) →
    (∀ I', Fr [(30, z)] I I' → (∀ x y, x < T → y < T → I' 30 z x y = v0w rm x y) → wp (f_X3_measureWays_72 z FU I' 0) Q) → wp (f_X3_measureWays_2 z fu I (nI a)) Q := by
  intro m
  induction m with
  | zero =>
    intro fu a I ha hf h3 hr hw hq
    obtain ⟨g, rfl⟩ := Nat.exists_eq_succ_of_ne_zero (by omega : fu ≠ 0)
    unfold f_X3_measureWays_2
    exact wp_pos (by rw [h3]; exact nI_le (by omega) (by omega)) (hq I Fr.rfl (fun x y hx hy => hw x y hx hy (by omega)))
  | succ m ih =>
    intro fu a I ha hf h3 hr hw hq
    obtain ⟨g, rfl⟩ := Nat.exists_eq_succ_of_ne_zero (by omega : fu ≠ 0)
    unfold f_X3_measureWays_2
    refine wp_neg (by rw [h3]; exact nI_ge (by omega) (by omega)) ?_
    rw [n_0]
    refine c_mw12 hT (by omega) T FU 0 I (by omega) (by unfold FU; omega) h3 hr (fun x y hx hy h => hw x y hx hy (by omega)) (fun I1 F h => ?_)
    exact ih g (a + 1) I1 (by omega) (by omega) (by rw [F.g (c := 3) (by simp)]; exact h3) (fun x y hx hy => by rw [F.g (c := 28) (by simp)]; exact hr x y hx hy) h (fun I' F' h' => hq I' (F.tr F') h')
theorem c_mw120 {z : Nat} (hT : T ≤ 9) {w : Nat → Nat → Int32} {gg : Int32} {k110 : Mem → Int32 → Option Mem} {Q : Mem → Prop} {a : Nat} (ha : a < T) : ∀ m fu k I, k + m = T → m < fu → I 3 z 0 0 = nI T → gg = (if I 3 z 0 3 = 0 then 10 else I 3 z 0 3) → (∀ x y, x < T → y < T → I 30 z x y = w x y) → (∀ x y, x < T → y < T → (x < a ∨ x = a ∧ y < k) → I 32 z x y = nww w gg x y) →
    (∀ I', Fr [(32, z)] I I' → (∀ x y, x < T → y < T → x < a + 1 → I' 32 z x y = nww w gg x y) → wp (k110 I' (nI (a + 1))) Q) → wp (f_X3_measureWays_120 k110 z fu I (nI a) (nI k)) Q := by
  intro m
  induction m with
  | zero =>
    intro fu k I hk hf h3 hg hr hw hq
    obtain ⟨g, rfl⟩ := Nat.exists_eq_succ_of_ne_zero (by omega : fu ≠ 0)
    unfold f_X3_measureWays_120
    rw [nI_1]
    exact wp_pos (by rw [h3]; exact nI_le (by omega) (by omega)) (hq I Fr.rfl (fun x y hx hy h => hw x y hx hy (by omega)))
  | succ m ih =>
    intro fu k I hk hf h3 hg hr hw hq
    obtain ⟨g, rfl⟩ := Nat.exists_eq_succ_of_ne_zero (by omega : fu ≠ 0)
    have go : ∀ v, v = nww w gg a k → wp (f_X3_measureWays_120 k110 z g (upd4 I 32 z a k v) (nI a) (nI (k + 1))) Q := by
      intro v hv
      refine ih g (k + 1) _ (by omega) (by omega) (by rw [u_c (by omega)]; exact h3) (by rw [u_c (by omega)]; exact hg) (fun x y hx hy => by rw [u_c (by omega)]; exact hr x y hx hy) (fun x y hx hy h => ?_) (fun I' F h => hq I' ((Fr.up (by simp)).tr F) h)
      rw [u_if]
      by_cases q : x = a ∧ y = k
      · rw [if_pos q, q.1, q.2]; exact hv
      · rw [if_neg q]; exact hw x y hx hy (by omega)
    have gt : f_X3_gossipTenths I z = some gg := by
      unfold f_X3_gossipTenths; rw [hg]; split <;> rfl
    unfold f_X3_measureWays_120
    rw [nI_clamp (by omega), nI_clamp (by omega), nI_1 k, hr a k ha (by omega), gt]
    refine wp_neg (by rw [h3]; exact nI_ge (by omega) (by omega)) (wp_gd (inb_n (by omega)) (wp_gd (inb_n (by omega)) (wp_bnd ?_)))
    refine wp_ite (fun q => wp_bnd (go _ ?_)) (fun q => ?_)
    · unfold nww; rw [if_pos q]
    · rw [Option.bind_some]
      refine wp_bnd (go _ ?_)
      unfold nww; rw [if_neg q]
theorem c_mw110 {z : Nat} (hT : T ≤ 9) {w : Nat → Nat → Int32} {gg : Int32} : ∀ m fu a I, a + m = T → m < fu → I 3 z 0 0 = nI T → gg = (if I 3 z 0 3 = 0 then 10 else I 3 z 0 3) → (∀ x y, x < T → y < T → I 30 z x y = w x y) → (∀ x y, x < T → y < T → x < a → I 32 z x y = nww w gg x y) →
    wp (f_X3_measureWays_110 z fu I (nI a)) (fun I' => Fr [(32, z)] I I' ∧ ∀ x y, x < T → y < T → I' 32 z x y = nww w gg x y) := by
  intro m
  induction m with
  | zero =>
    intro fu a I ha hf h3 hg hr hw
    obtain ⟨g, rfl⟩ := Nat.exists_eq_succ_of_ne_zero (by omega : fu ≠ 0)
    unfold f_X3_measureWays_110
    exact wp_pos (by rw [h3]; exact nI_le (by omega) (by omega)) (wp_some ⟨Fr.rfl, fun x y hx hy => hw x y hx hy (by omega)⟩)
  | succ m ih =>
    intro fu a I ha hf h3 hg hr hw
    obtain ⟨g, rfl⟩ := Nat.exists_eq_succ_of_ne_zero (by omega : fu ≠ 0)
    unfold f_X3_measureWays_110
    refine wp_neg (by rw [h3]; exact nI_ge (by omega) (by omega)) ?_
    rw [n_0]
    refine c_mw120 hT (by omega) T FU 0 I (by omega) (by unfold FU; omega) h3 hg hr (fun x y hx hy h => hw x y hx hy (by omega)) (fun I1 F h => ?_)
    refine wp_mono (ih g (a + 1) I1 (by omega) (by omega) (by rw [F.g (c := 3) (by simp)]; exact h3) (by rw [F.g (c := 3) (by simp)]; exact hg) (fun x y hx hy => by rw [F.g (c := 30) (by simp)]; exact hr x y hx hy) h) (fun I' h' => ⟨F.tr h'.1, h'.2⟩)
theorem v0_g0 (hT : T ≤ 9) (hr : ∀ a b, a < 9 → b < 9 → 0 ≤ (rm a b).toInt ∧ (rm a b).toInt ≤ 9) : g0 T 9 (v0w rm) := by
  refine ⟨fun a b ha hb => ?_, fun x hx => if_pos rfl⟩
  have z := hr a b (by omega) (by omega)
  unfold v0w
  split
  · exact Or.inr ⟨0, by omega, rfl⟩
  · split
    · exact Or.inl rfl
    · exact Or.inr ⟨(rm a b).toInt.toNat, by omega, by rw [fa_eq, nI_toInt (by omega)]; omega⟩
theorem c_ways {z : Nat} {I : Mem} {gg : Int32} (hT : T ≤ 9) (hr : ∀ a b, a < 9 → b < 9 → 0 ≤ (rm a b).toInt ∧ (rm a b).toInt ≤ 9) (h3 : I 3 z 0 0 = nI T) (hg : gg = (if I 3 z 0 3 = 0 then 10 else I 3 z 0 3)) (h28 : ∀ x y, x < 9 → y < 9 → I 28 z x y = rm x y) :
    wp (f_X3_measureWays z I) (fun I' => Fr [(30, z), (32, z)] I I' ∧ (∀ x y, x < T → y < T → I' 30 z x y = fw1 T 0 T (v0w rm) x y) ∧ ∀ x y, x < T → y < T → I' 32 z x y = nww (fw1 T 0 T (v0w rm)) gg x y) := by
  unfold f_X3_measureWays
  rw [n_0]
  refine c_mw2 (rm := rm) hT T FU 0 I (by omega) (by unfold FU; omega) h3 h28 (fun x y _ _ h => by omega) (fun I1 F1 h1 => ?_)
  rw [n_0]
  have p : 2 ^ T ≤ 2 ^ 9 := Nat.pow_le_pow_right (by omega) hT
  refine c_mw72 hT T FU 0 I1 (v0w rm) 9 (by omega) (by unfold FU; omega) (by rw [F1.g (c := 3) (by simp)]; exact h3) h1 (v0_g0 hT hr) (by omega) (fun I2 F2 h2 => ?_)
  rw [n_0]
  have F12 := F1.tr F2
  refine wp_mono (c_mw110 hT (w := fw1 T 0 T (v0w rm)) (gg := gg) T FU 0 I2 (by omega) (by unfold FU; omega) (by rw [F12.g (c := 3) (by simp)]; exact h3) (by rw [F12.g (c := 3) (by simp)]; exact hg) h2 (fun x y _ _ h => by omega)) ?_
  rintro I3 ⟨F3, h3'⟩
  exact ⟨(F12.sub (by simp)).tr (F3.sub (by simp)), fun x y hx hy => by rw [F3.g (c := 30) (by simp)]; exact h2 x y hx hy, h3'⟩
theorem ways_wyB {gg : Int32} (hT : T ≤ 9) (hr : ∀ a b, a < 9 → b < 9 → 0 ≤ (rm a b).toInt ∧ (rm a b).toInt ≤ 9) (hg : 1 ≤ gg.toInt ∧ gg.toInt ≤ 40) : wyB T (fw1 T 0 T (v0w rm)) gg (nww (fw1 T 0 T (v0w rm)) gg) := by
  have p : 2 ^ T ≤ 2 ^ 9 := Nat.pow_le_pow_right (by omega) hT
  have g := fw1_g0 (T := T) T 0 9 (v0w rm) (by omega) (v0_g0 hT hr) (by omega)
  intro a b ha hb
  rcases g.1 a b ha hb with q | ⟨n, hn, q⟩
  · left; refine ⟨q, ?_⟩; unfold nww; rw [if_pos q]
  · right
    have hn2 : n ≤ 4608 := by omega
    have e : gg = nI gg.toInt.toNat := by rw [fa_eq, nI_toInt (by omega)]; omega
    have hm : n * gg.toInt.toNat ≤ 4608 * 40 := Nat.mul_le_mul hn2 (by omega)
    have nw : nww (fw1 T 0 T (v0w rm)) gg a b = nI ((n * gg.toInt.toNat + 9) / 10) := by
      unfold nww; rw [if_neg (by rw [q]; exact nI_ni (by omega)), q, e, pk_mul, n_9, nI_add, show (10 : Int32) = nI 10 from rfl, pk_div (by omega) (by omega) (by omega)]
      rw [nI_toInt (by omega), Int.toNat_natCast]
    refine ⟨by rw [q, nI_toInt (by omega)]; omega, by rw [q, nI_toInt (by omega)]; omega, ?_, by rw [nw, nI_toInt (by omega)]; omega, by rw [nw, nI_toInt (by omega)]; omega⟩
    unfold nww; rw [if_neg (by rw [q]; exact nI_ni (by omega))]
/-! the reference -/
theorem nv_cell {by' B : Nat} {w : Nat → Nat → Int32} (hB : B ≤ 5000) (hg : gw T by' B w) {a b : Nat} (ha : a < T) (hb : b < T) : jmin (nv (w a b)) (nv (w a by') + nv (w by' b)) = nv (cell w by' a b) := by
  have m1 : nv (-1) = nI 100000 := rfl
  have nn : ∀ n, n ≤ 20000 → nv (nI n) = nI n := fun n hn => if_neg (nI_ni (by omega))
  have b1 : ∃ x, x ≤ 100000 ∧ nv (w a b) = nI x := by
    rcases hg.1 a b ha hb with q | ⟨n, hn, q⟩
    · exact ⟨100000, by omega, by rw [q]; rfl⟩
    · exact ⟨n, by omega, by rw [q, nn n (by omega)]⟩
  obtain ⟨x, hx, ex⟩ := b1
  rcases hg.2.1 a ha with q | ⟨n, hn, q⟩
  · have c : cell w by' a b = w a b := by unfold cell; rw [if_pos q]
    rw [c, ex, q, m1]
    rcases hg.2.2.1 b hb with q2 | ⟨n2, hn2, q2⟩
    · rw [q2, m1, nI_add, jmin_n (by omega) (by omega)]; congr 1; omega
    · rw [q2, nn n2 (by omega), nI_add, jmin_n (by omega) (by omega)]; congr 1; omega
  · have q' : ¬ w a by' = -1 := by rw [q]; exact nI_ni (by omega)
    rcases hg.2.2.1 b hb with q2 | ⟨n2, hn2, q2⟩
    · have c : cell w by' a b = w a b := by unfold cell; rw [if_neg q', if_pos q2]
      rw [c, ex, q, q2, m1, nn n (by omega), nI_add, jmin_n (by omega) (by omega)]; congr 1; omega
    · have q2' : ¬ w by' b = -1 := by rw [q2]; exact nI_ni (by omega)
      unfold cell
      rw [if_neg q', if_neg q2', q, q2, nn n (by omega), nn n2 (by omega), nI_add]
      rcases hg.1 a b ha hb with y | ⟨n3, hn3, y⟩
      · rw [if_pos y, y, m1, jmin_n (by omega) (by omega), nn _ (by omega)]; congr 1; omega
      · rw [if_neg (by rw [y]; exact nI_ni (by omega)), y, nn n3 (by omega), jmin_n (by omega) (by omega)]
        by_cases le : n3 ≤ n + n2
        · rw [if_pos (nI_le le (by omega)), nn n3 (by omega)]; congr 1; omega
        · rw [if_neg (nI_ge (by omega) (by omega)), nn _ (by omega)]; congr 1; omega
theorem r_tf109 {by' B : Nat} (hT : T ≤ 9) (hB : B ≤ 5000) (hb : by' < T) {a : Nat} (ha : a < T) {k97 : Mem → Int32 → Int32 → Option Mem} {Q : Mem → Prop} : ∀ m fu k R w, k + m = T → m < fu → R 50 0 0 0 = nI T → (∀ x y, x < T → y < T → R 61 0 0 (9 * x + y) = nv (w x y)) → gw T by' B w →
    (∀ R', Fr [(61, 0)] R R' → (∀ x y, x < T → y < T → R' 61 0 0 (9 * x + y) = nv (fw3 by' a k m w x y)) → wp (k97 R' (nI by') (nI (a + 1))) Q) → wp (f_X8_tellFar_109 k97 fu R (nI by') (nI a) (nI k)) Q := by
  intro m
  induction m with
  | zero =>
    intro fu k R w hk hf h5 hw hg hq
    obtain ⟨g, rfl⟩ := Nat.exists_eq_succ_of_ne_zero (by omega : fu ≠ 0)
    unfold f_X8_tellFar_109
    rw [nI_1]
    exact wp_pos (by rw [h5]; exact nI_le (by omega) (by omega)) (hq R Fr.rfl hw)
  | succ m ih =>
    intro fu k R w hk hf h5 hw hg hq
    obtain ⟨g, rfl⟩ := Nat.exists_eq_succ_of_ne_zero (by omega : fu ≠ 0)
    unfold f_X8_tellFar_109 f_X8_couple
    simp only [Option.bind_some]
    rw [n_9, idx_n, idx_n, idx_n, nI_1 k, nI_clamp (n := 9 * a + k) (by omega), nI_clamp (n := 9 * a + by') (by omega), nI_clamp (n := 9 * by' + k) (by omega), hw a k ha (by omega), hw a by' ha hb, hw by' k hb (by omega), nv_cell hB hg ha (by omega)]
    refine wp_neg (by rw [h5]; exact nI_ge (by omega) (by omega)) (wp_gd (inb_n (by omega)) (wp_gd (inb_n (by omega)) (wp_gd (inb_n (by omega)) (wp_gd (inb_n (by omega)) (wp_bnd ?_)))))
    refine ih g (k + 1) _ _ (by omega) (by omega) (by rw [u_c (by omega)]; exact h5) (fun x y hx hy => ?_) (gw_step hB hg hb ha (by omega)) (fun R' F h => hq R' ((Fr.up (by simp)).tr F) h)
    rw [u5]; unfold cset
    by_cases q : x = a ∧ y = k
    · rw [if_pos (by omega), if_pos q]
    · rw [if_neg (by omega), if_neg q]; exact hw x y hx hy
theorem r_tf97 {by' B : Nat} (hT : T ≤ 9) (hB : B ≤ 5000) (hb : by' < T) {k85 : Mem → Int32 → Option Mem} {Q : Mem → Prop} : ∀ m fu a R w, a + m = T → m < fu → R 50 0 0 0 = nI T → (∀ x y, x < T → y < T → R 61 0 0 (9 * x + y) = nv (w x y)) → gw T by' B w →
    (∀ R', Fr [(61, 0)] R R' → (∀ x y, x < T → y < T → R' 61 0 0 (9 * x + y) = nv (fw2 T by' a m w x y)) → wp (k85 R' (nI (by' + 1))) Q) → wp (f_X8_tellFar_97 k85 fu R (nI by') (nI a)) Q := by
  intro m
  induction m with
  | zero =>
    intro fu a R w ha hf h5 hw hg hq
    obtain ⟨g, rfl⟩ := Nat.exists_eq_succ_of_ne_zero (by omega : fu ≠ 0)
    unfold f_X8_tellFar_97
    rw [nI_1]
    exact wp_pos (by rw [h5]; exact nI_le (by omega) (by omega)) (hq R Fr.rfl hw)
  | succ m ih =>
    intro fu a R w ha hf h5 hw hg hq
    obtain ⟨g, rfl⟩ := Nat.exists_eq_succ_of_ne_zero (by omega : fu ≠ 0)
    unfold f_X8_tellFar_97
    rw [n_0]
    refine wp_neg (by rw [h5]; exact nI_ge (by omega) (by omega)) ?_
    refine r_tf109 hT hB hb (by omega) T FU 0 R w (by omega) (by unfold FU; omega) h5 hw hg (fun R1 F1 h1 => ?_)
    exact ih g (a + 1) R1 _ (by omega) (by omega) (by rw [F1.g (c := 50) (by simp)]; exact h5) h1 (fw3_gw hB hb (by omega) T 0 w (by omega) hg) (fun R' F h => hq R' (F1.tr F) h)
theorem r_tf85 (hT : T ≤ 9) : ∀ m fu b R w B, b + m = T → m < fu → R 50 0 0 0 = nI T → (∀ x y, x < T → y < T → R 61 0 0 (9 * x + y) = nv (w x y)) → g0 T B w → B * 2 ^ m ≤ 5000 →
    wp (f_X8_tellFar_85 fu R (nI b)) (fun R' => Fr [(61, 0)] R R' ∧ ∀ x y, x < T → y < T → R' 61 0 0 (9 * x + y) = nv (fw1 T b m w x y)) := by
  intro m
  induction m with
  | zero =>
    intro fu b R w B hb hf h5 hw hg hB
    obtain ⟨g, rfl⟩ := Nat.exists_eq_succ_of_ne_zero (by omega : fu ≠ 0)
    unfold f_X8_tellFar_85
    exact wp_pos (by rw [h5]; exact nI_le (by omega) (by omega)) (wp_some ⟨Fr.rfl, hw⟩)
  | succ m ih =>
    intro fu b R w B hb hf h5 hw hg hB
    obtain ⟨g, rfl⟩ := Nat.exists_eq_succ_of_ne_zero (by omega : fu ≠ 0)
    have p : 1 ≤ 2 ^ m := Nat.one_le_two_pow
    have e : B * 2 ^ (m + 1) = B * 2 * 2 ^ m := by rw [Nat.pow_succ, Nat.mul_assoc, Nat.mul_comm 2]
    rw [e] at hB
    have B5 : B * 2 ≤ 5000 := Nat.le_trans (Nat.le_mul_of_pos_right _ p) hB
    unfold f_X8_tellFar_85
    refine wp_neg (by rw [h5]; exact nI_ge (by omega) (by omega)) ?_
    rw [n_0]
    refine r_tf97 hT (B := B) (by omega) (by omega) T FU 0 R w (by omega) (by unfold FU; omega) h5 hw (g0_gw hg (by omega)) (fun R1 F h => ?_)
    have gg := fw2_gw (T := T) (by' := b) (B := B) (by omega) (by omega) T 0 w (by omega) (g0_gw hg (by omega))
    refine wp_mono (ih g (b + 1) R1 _ (B * 2) (by omega) (by omega) (by rw [F.g (c := 50) (by simp)]; exact h5) h ⟨fun x y hx hy => okv_le (gg.1 x y hx hy) (by omega), gg.2.2.2⟩ hB) (fun R' h' => ⟨F.tr h'.1, h'.2⟩)
theorem nv_v0 {a b : Nat} (hr : 0 ≤ (rm a b).toInt) : nv (v0w rm a b) = if a = b then 0 else if rm a b ≤ 0 then 100000 else rm a b := by
  unfold v0w
  split
  · rfl
  · split
    · rfl
    · refine if_neg (fun y => ?_)
      rw [y] at hr
      exact absurd hr (by decide)
theorem r_tf14 (hT : T ≤ 9) (hr : ∀ a b, a < 9 → b < 9 → 0 ≤ (rm a b).toInt ∧ (rm a b).toInt ≤ 9) {k2 : Mem → Int32 → Option Mem} {Q : Mem → Prop} {a : Nat} (ha : a < T) : ∀ m fu k R, k + m = T → m < fu → R 50 0 0 0 = nI T → (∀ x y, x < 9 → y < 9 → R 51 0 0 (9 * x + y) = rm x y) → (∀ x y, x < T → y < T → (x < a ∨ x = a ∧ y < k) → R 61 0 0 (9 * x + y) = nv (v0w rm x y)) →
    (∀ R', Fr [(61, 0)] R R' → (∀ x y, x < T → y < T → x < a + 1 → R' 61 0 0 (9 * x + y) = nv (v0w rm x y)) → wp (k2 R' (nI (a + 1))) Q) → wp (f_X8_tellFar_14 k2 fu R (nI a) (nI k)) Q := by
  intro m
  induction m with
  | zero =>
    intro fu k R hk hf h5 h51 hw hq
    obtain ⟨g, rfl⟩ := Nat.exists_eq_succ_of_ne_zero (by omega : fu ≠ 0)
    unfold f_X8_tellFar_14
    rw [nI_1]
    exact wp_pos (by rw [h5]; exact nI_le (by omega) (by omega)) (hq R Fr.rfl (fun x y hx hy h => hw x y hx hy (by omega)))
  | succ m ih =>
    intro fu k R hk hf h5 h51 hw hq
    obtain ⟨g, rfl⟩ := Nat.exists_eq_succ_of_ne_zero (by omega : fu ≠ 0)
    have go : ∀ v, v = nv (v0w rm a k) → wp (f_X8_tellFar_14 k2 g (upd4 R 61 0 0 (9 * a + k) v) (nI a) (nI (k + 1))) Q := by
      intro v hv
      refine ih g (k + 1) _ (by omega) (by omega) (by rw [u_c (by omega)]; exact h5) (fun x y hx hy => by rw [u_c (by omega)]; exact h51 x y hx hy) (fun x y hx hy h => ?_) (fun R' F h => hq R' ((Fr.up (by simp)).tr F) h)
      rw [u5]
      by_cases q : x = a ∧ y = k
      · rw [if_pos (by omega), q.1, q.2]; exact hv
      · rw [if_neg (by omega)]; exact hw x y hx hy (by omega)
    have x1 := h51 a k (by omega) (by omega)
    have nvv := nv_v0 (rm := rm) (a := a) (b := k) (hr a k (by omega) (by omega)).1
    unfold f_X8_tellFar_14 f_X8_couple
    simp only [Option.bind_some]
    rw [n_9, idx_n, nI_1 k, nI_clamp (n := 9 * a + k) (by omega)]
    refine wp_neg (by rw [h5]; exact nI_ge (by omega) (by omega)) ?_
    by_cases q : a = k
    · refine wp_pos (by rw [q]) (wp_gd (inb_n (by omega)) (wp_bnd (go 0 ?_)))
      rw [nvv, if_pos q]
    · refine wp_neg (by rw [nI_eq (by omega) (by omega)]; exact q) (wp_gd (inb_n (by omega)) ?_)
      by_cases q2 : rm a k ≤ 0
      · refine wp_pos (by rw [x1]; exact q2) (wp_gd (inb_n (by omega)) (wp_bnd (go _ ?_)))
        rw [nvv, if_neg q, if_pos q2]
      · refine wp_neg (by rw [x1]; exact q2) (wp_gd (inb_n (by omega)) (wp_gd (inb_n (by omega)) (wp_bnd (go _ ?_))))
        rw [nvv, if_neg q, if_neg q2, x1]
theorem r_tf2 (hT : T ≤ 9) (hr : ∀ a b, a < 9 → b < 9 → 0 ≤ (rm a b).toInt ∧ (rm a b).toInt ≤ 9) {Q : Mem → Prop} : ∀ m fu a R, a + m = T → m < fu → R 50 0 0 0 = nI T → (∀ x y, x < 9 → y < 9 → R 51 0 0 (9 * x + y) = rm x y) → (∀ x y, x < T → y < T → x < a → R 61 0 0 (9 * x + y) = nv (v0w rm x y)) →
    (∀ R', Fr [(61, 0)] R R' → (∀ x y, x < T → y < T → R' 61 0 0 (9 * x + y) = nv (v0w rm x y)) → wp (f_X8_tellFar_85 FU R' 0) Q) → wp (f_X8_tellFar_2 fu R (nI a)) Q := by
  intro m
  induction m with
  | zero =>
    intro fu a R ha hf h5 h51 hw hq
    obtain ⟨g, rfl⟩ := Nat.exists_eq_succ_of_ne_zero (by omega : fu ≠ 0)
    unfold f_X8_tellFar_2
    exact wp_pos (by rw [h5]; exact nI_le (by omega) (by omega)) (hq R Fr.rfl (fun x y hx hy => hw x y hx hy (by omega)))
  | succ m ih =>
    intro fu a R ha hf h5 h51 hw hq
    obtain ⟨g, rfl⟩ := Nat.exists_eq_succ_of_ne_zero (by omega : fu ≠ 0)
    unfold f_X8_tellFar_2
    refine wp_neg (by rw [h5]; exact nI_ge (by omega) (by omega)) ?_
    rw [n_0]
    refine r_tf14 hT hr (by omega) T FU 0 R (by omega) (by unfold FU; omega) h5 h51 (fun x y hx hy h => hw x y hx hy (by omega)) (fun R1 F h => ?_)
    exact ih g (a + 1) R1 (by omega) (by omega) (by rw [F.g (c := 50) (by simp)]; exact h5) (fun x y hx hy => by rw [F.g (c := 51) (by simp)]; exact h51 x y hx hy) h (fun R' F' h' => hq R' (F.tr F') h')
theorem r_ways {R : Mem} (hT : T ≤ 9) (hr : ∀ a b, a < 9 → b < 9 → 0 ≤ (rm a b).toInt ∧ (rm a b).toInt ≤ 9) (h5 : R 50 0 0 0 = nI T) (h51 : ∀ x y, x < 9 → y < 9 → R 51 0 0 (9 * x + y) = rm x y) :
    wp (f_X8_tellFar R) (fun R' => Fr [(61, 0)] R R' ∧ ∀ x y, x < T → y < T → R' 61 0 0 (9 * x + y) = nv (fw1 T 0 T (v0w rm) x y)) := by
  unfold f_X8_tellFar
  rw [n_0]
  refine r_tf2 (rm := rm) hT hr T FU 0 R (by omega) (by unfold FU; omega) h5 h51 (fun x y _ _ h => by omega) (fun R1 F1 h1 => ?_)
  rw [n_0]
  have p : 2 ^ T ≤ 2 ^ 9 := Nat.pow_le_pow_right (by omega) hT
  exact wp_mono (r_tf85 hT T FU 0 R1 (v0w rm) 9 (by omega) (by unfold FU; omega) (by rw [F1.g (c := 50) (by simp)]; exact h5) h1 (v0_g0 hT hr) (by omega)) (fun R' h => ⟨F1.tr h.1, h.2⟩)
end
