/-! words, signs, numbers -/
def chr (z i : Nat) : Nat := (schr z i).toNatClampNeg
def wl (z : Nat) : Nat := strL.getD z 0
theorem chr_ok : ∀ z, z < 25 → ∀ i, i < 40 → schr z i = nI (chr z i) ∧ chr z i < 128 := by decide +kernel
theorem wl_ok : ∀ z, z < 25 → wl z < 40 := by decide +kernel
def wI (tb : Nat → Nat) (b e z : Nat) : Bool := decide (e = b + wl z) && !ex (fun i => decide (tb (b + i) ≠ chr z i)) 0 (wl z)
def sI (tb : Nat → Nat) (k b c : Nat) : Bool := decide (k = 3) && decide (tb b = c)
theorem wI_at {tb : Nat → Nat} {b e z : Nat} (h : wI tb b e z = true) : e = b + wl z ∧ ∀ i, i < wl z → tb (b + i) = chr z i := by
  unfold wI at h
  simp only [Bool.and_eq_true, decide_eq_true_eq, Bool.not_eq_true'] at h
  refine ⟨h.1, fun i hi => ?_⟩
  by_cases q : tb (b + i) = chr z i
  · exact q
  · exfalso
    have : ex (fun i => decide (tb (b + i) ≠ chr z i)) 0 (wl z) = true := (ex_iff _).mpr ⟨i, by omega, by omega, decide_eq_true q⟩
    rw [h.2] at this; cases this
def sameW (z z' : Nat) : Bool := decide (wl z = wl z') && !ex (fun i => decide (chr z i ≠ chr z' i)) 0 (wl z)
/-- two words that differ aren't both there -/
theorem wI_ex {tb : Nat → Nat} {b e z z' : Nat} (h : wI tb b e z = true) (hd : sameW z z' = false) : wI tb b e z' = false := by
  rw [Bool.eq_false_iff]
  intro h'
  have a := wI_at h
  have a' := wI_at h'
  have : sameW z z' = true := by
    unfold sameW
    simp only [Bool.and_eq_true, decide_eq_true_eq, Bool.not_eq_true']
    refine ⟨by omega, ?_⟩
    rw [Bool.eq_false_iff]
    intro q
    obtain ⟨i, _, hi, q⟩ := (ex_iff _).mp q
    have : wl z = wl z' := by omega
    rw [Nat.zero_add] at hi
    have x1 := a.2 i hi
    have x2 := a'.2 i (by omega)
    exact absurd (x1.symm.trans x2) (of_decide_eq_true q)
  rw [hd] at this; cases this
section
variable {n : Nat} {tb : Nat → Nat} {I : Mem} {b e k : Nat}
theorem tkO_b (h : tkO n tb b e k) : b ≤ n ∧ e ≤ n ∧ b ≤ e ∧ k ≤ 4 ∧ (k = 0 ↔ n ≤ b) ∧ (k ≠ 0 → b < e) := by
  obtain ⟨h1, h2, rfl, rfl⟩ := h
  have a := tE_b (tb := tb) h1
  have c := tK_b (n := n) (tb := tb) (b := b)
  refine ⟨h1, h2, a.1, c.1, c.2, fun q => a.2.2 ?_⟩
  by_cases z : n ≤ b
  · exact absurd (c.2.mpr z) q
  · omega
theorem c_word_28 (h256 : ∀ i, tb i < 256) (hn : n ≤ 600) (h5 : tpC n tb I) (h6 : I 5 0 0 6 = nI b) {z : Nat} (hz : z < 25) (hb : b + wl z ≤ n) : ∀ m fu i, i + m = wl z → m < fu →
    f_X5_isWord_28 I z fu (nI i) = some (bI (!ex (fun i => decide (tb (b + i) ≠ chr z i)) i m)) := by
  have hw := wl_ok z hz
  intro m
  induction m with
  | zero =>
    intro fu i hi hf
    obtain ⟨g, rfl⟩ := Nat.exists_eq_succ_of_ne_zero (by omega : fu ≠ 0)
    unfold f_X5_isWord_28
    rw [if_pos (show slen z ≤ nI i from nI_le (a := wl z) (by omega) (by omega))]; rfl
  | succ m ih =>
    intro fu i hi hf
    obtain ⟨g, rfl⟩ := Nat.exists_eq_succ_of_ne_zero (by omega : fu ≠ 0)
    unfold f_X5_isWord_28
    have hc := chr_ok z hz i (by omega)
    rw [if_neg (show ¬ slen z ≤ nI i from nI_ge (b := wl z) (by omega) (by omega)), h6, nI_add, gd_t (inb_n (by omega)), gd_t (inb_n (n := strL.getD z 0) (show i < wl z by omega) (show wl z < _ by omega)), nI_clamp (by omega), nI_clamp (by omega), h5.2 _ (by omega), hc.1, nI_1, ih g (i + 1) (by omega) (by omega), ex]
    by_cases q : tb (b + i) = chr z i
    · rw [if_pos ((sb_eq (h256 _) hc.2).mpr q)]; simp [q]
    · rw [if_neg (fun y => q ((sb_eq (h256 _) hc.2).mp y))]; simp [q]; rfl
theorem c_word (h256 : ∀ i, tb i < 256) (hn : n ≤ 600) (h5 : tpC n tb I) (ht : tkC I b e k) (ho : tkO n tb b e k) {z : Nat} (hz : z < 25) : f_X5_isWord I z = some (bI (decide (k = 1) && wI tb b e z)) := by
  have q := tkO_b ho
  obtain ⟨_, _, t5, t6, t7⟩ := ht
  have hw := wl_ok z hz
  unfold f_X5_isWord
  by_cases k1 : k = 1
  · rw [if_pos (by rw [t5, k1]; rfl), t7, t6, pk_sub (by omega)]
    by_cases q2 : e = b + wl z
    · rw [if_pos (show nI (e - b) = slen z from (by congr 1; omega : nI (e - b) = nI (wl z))), n_0, c_word_28 h256 hn h5 t6 hz (by omega) (wl z) FU 0 (by omega) (by unfold FU; omega)]
      unfold wI; simp [k1, q2]
    · rw [if_neg (show ¬ nI (e - b) = slen z from fun y => q2 (by have := (nI_eq (b := wl z) (by omega) (by omega)).mp y; omega))]
      unfold wI; simp [q2]; rfl
  · rw [if_neg (by rw [t5, n_1, nI_eq (by omega) (by omega)]; exact k1)]
    simp [k1]; rfl
theorem r_is_39 (hn : n ≤ 600) (h256 : ∀ i, tb i < 256) (h8 : tpR n tb I) (h19 : I 8 0 0 19 = nI b) {z : Nat} (hz : z < 25) (hb : b + wl z ≤ n) : ∀ m fu i, i + m = wl z → m + 1 < fu →
    f_X8_is_39 I z fu 1 (nI i) = some (bI (!ex (fun i => decide (tb (b + i) ≠ chr z i)) i m)) := by
  have hw := wl_ok z hz
  intro m
  induction m with
  | zero =>
    intro fu i hi hf
    obtain ⟨g, rfl⟩ := Nat.exists_eq_succ_of_ne_zero (by omega : fu ≠ 0)
    unfold f_X8_is_39
    rw [if_neg (by decide), if_pos (show slen z ≤ nI i from nI_le (a := wl z) (by omega) (by omega)), gd_t (by decide)]; rfl
  | succ m ih =>
    intro fu i hi hf
    obtain ⟨g, rfl⟩ := Nat.exists_eq_succ_of_ne_zero (by omega : fu ≠ 0)
    unfold f_X8_is_39
    have hc := chr_ok z hz i (by omega)
    have hx := h256 (b + i)
    rw [if_neg (by decide), if_neg (show ¬ slen z ≤ nI i from nI_ge (b := wl z) (by omega) (by omega)), h19, nI_add, gd_t (inb_n (n := strL.getD z 0) (show i < wl z by omega) (show wl z < _ by omega)), gd_t (inb_n (by omega)), nI_clamp (by omega), nI_clamp (by omega), h8.2 _ (by omega), hc.1, nI_1, ih g (i + 1) (by omega) (by omega), ex]
    by_cases q : tb (b + i) = chr z i
    · rw [if_pos ((nI_eq (by omega) (by omega)).mpr q.symm)]; simp [q]
    · rw [if_neg (fun y => q ((nI_eq (by omega) (by omega)).mp y).symm)]
      obtain ⟨g', rfl⟩ := Nat.exists_eq_succ_of_ne_zero (by omega : g ≠ 0)
      unfold f_X8_is_39
      rw [if_pos rfl, gd_t (by decide)]; simp [q]; rfl
theorem r_is0 (z : Nat) : f_X8_is_35 I z = some 0 := by
  unfold f_X8_is_35 f_X8_is_36
  show f_X8_is_39 I z (1999 + 1) 0 0 = _
  unfold f_X8_is_39
  rw [if_pos rfl, gd_t (by decide)]
theorem r_is (h256 : ∀ i, tb i < 256) (hn : n ≤ 600) (h8 : tpR n tb I) (ht : tkR tb I b e k) (ho : tkO n tb b e k) {z : Nat} (hz : z < 25) : f_X8_is I z = some (bI (decide (k = 1) && wI tb b e z)) := by
  have q := tkO_b ho
  obtain ⟨t21, t17, t19, t15, t20, _⟩ := ht
  have hw := wl_ok z hz
  unfold f_X8_is
  rw [if_pos t21]
  by_cases k1 : k = 1
  · rw [if_pos (by rw [t17, k1]; rfl), t20, t19, pk_sub (by omega)]
    by_cases q2 : e = b + wl z
    · rw [if_pos (show slen z = nI (e - b) from (by congr 1; omega : nI (wl z) = nI (e - b)))]
      unfold f_X8_is_36
      rw [show (0 : Int32) = nI 0 from rfl, r_is_39 hn h256 h8 t19 hz (by omega) (wl z) FU 0 (by omega) (by unfold FU; omega)]
      unfold wI; simp [k1, q2]
    · rw [if_neg (show ¬ slen z = nI (e - b) from fun y => q2 (by have := (nI_eq (a := wl z) (by omega) (by omega)).mp y; omega)), r_is0]
      unfold wI; simp [q2]; rfl
  · rw [if_neg (by rw [t17, n_1, nI_eq (by omega) (by omega)]; exact k1), r_is0]
    simp [k1]; rfl
theorem c_sign (h256 : ∀ i, tb i < 256) (hn : n ≤ 600) (h5 : tpC n tb I) (ht : tkC I b e k) (ho : tkO n tb b e k) {c : Nat} (hc : c < 128) : f_X5_isSign I (nI c) = some (bI (sI tb k b c)) := by
  have q := tkO_b ho
  obtain ⟨_, _, t5, t6, t7⟩ := ht
  unfold f_X5_isSign sI
  by_cases k3 : k = 3
  · have : ¬ n ≤ b := fun y => by have := q.2.2.2.2.1.mpr y; omega
    rw [if_pos (by rw [t5, k3]; rfl), t6, gd_t (inb_n (by omega)), nI_clamp (by omega), h5.2 b (by omega)]
    by_cases q2 : tb b = c
    · rw [if_pos ((sb_eq (h256 _) hc).mpr q2)]; simp [k3, q2]; rfl
    · rw [if_neg (fun y => q2 ((sb_eq (h256 _) hc).mp y))]; simp [q2]; rfl
  · rw [if_neg (by rw [t5, n_3, nI_eq (by omega) (by omega)]; exact k3)]
    simp [k3]; rfl
theorem r_marked (h256 : ∀ i, tb i < 256) (hn : n ≤ 600) (h8 : tpR n tb I) (ht : tkR tb I b e k) (ho : tkO n tb b e k) {c : Nat} (hc : c < 128) : f_X8_isMarked I (nI c) = some (bI (sI tb k b c)) := by
  have q := tkO_b ho
  obtain ⟨t21, t17, t19, t15, t20, _⟩ := ht
  unfold f_X8_isMarked sI
  rw [if_pos t21]
  by_cases k3 : k = 3
  · have : ¬ n ≤ b := fun y => by have := q.2.2.2.2.1.mpr y; omega
    have hx := h256 b
    rw [if_pos (by rw [t17, k3]; rfl), t19, gd_t (inb_n (by omega)), nI_clamp (by omega), h8.2 b (by omega)]
    by_cases q2 : tb b = c
    · rw [if_pos ((nI_eq (by omega) (by omega)).mpr q2)]; simp [k3, q2]; rfl
    · rw [if_neg (fun y => q2 ((nI_eq (by omega) (by omega)).mp y))]; simp [q2]; rfl
  · rw [if_neg (by rw [t17, n_3, nI_eq (by omega) (by omega)]; exact k3)]
    simp [k3]; rfl
/-- a number of at most four digits -/
theorem dig_of (hk : k = 2) (ho : tkO n tb b e k) : ∀ i, b ≤ i → i < e → 48 ≤ tb i ∧ tb i ≤ 57 := by
  obtain ⟨h1, h2, h3, h4⟩ := ho
  have hb : b < n := by
    by_cases q : b < n
    · exact q
    · exfalso; unfold tK at h3; rw [if_neg q] at h3; omega
  have h3' : knd (tb b) = 2 := by unfold tK at h3; rw [if_pos hb] at h3; omega
  intro i hi hie
  by_cases q : i = b
  · subst q; exact knd_dig h3'
  · unfold tE at h4
    rw [if_pos hb, if_pos (Or.inr h3'), h3'] at h4
    unfold tX at h4
    have := ff_no (fun i => decide (knd (tb i) ≠ 2)) (n - (b + 1)) (b + 1) i (by omega) (by omega)
    simp at this
    exact knd_dig this
theorem dv_s {m : Nat} (hm : m ≤ 4) (hd : ∀ i, b ≤ i → i < b + m → 48 ≤ tb i ∧ tb i ≤ 57) : dv tb b m < 10 ^ m ∧ ∀ m', m' < m → dv tb b (m' + 1) = dv tb b m' * 10 + (tb (b + m') - 48) := by
  induction m with
  | zero => exact ⟨Nat.zero_lt_one, fun m' h => absurd h (Nat.not_lt_zero _)⟩
  | succ m ih =>
    have q := ih (by omega) (fun i h1 h2 => hd i h1 (by omega))
    have d := hd (b + m) (by omega) (by omega)
    have p : 10 ^ m ≤ 1000 := Nat.pow_le_pow_right (n := 10) (j := 3) (by omega) (by omega)
    have e : dv tb b (m + 1) = dv tb b m * 10 + (tb (b + m) - 48) := by
      rw [dv, Nat.min_eq_right (by omega)]; omega
    refine ⟨by rw [e, Nat.pow_succ]; omega, fun m' h => ?_⟩
    by_cases z : m' = m
    · subst z; exact e
    · exact q.2 m' (by omega)
theorem c_look_23 (h256 : ∀ i, tb i < 256) (hn : n ≤ 600) (h5 : tpC n tb I) (h6 : I 5 0 0 6 = nI b) (h7 : I 5 0 0 7 = nI e) (hk : k = 2) (ho : tkO n tb b e k) {lo hi : Nat} (hl : lo < 10000) (hh : hi < 10000) : ∀ m fu i (v : Int32), i + m = e → m < fu → b ≤ i → (e - b ≤ 4 → v = nI (dv tb b (i - b))) →
    wp (f_X5_lookAtNumber_23 fu I (nI lo) (nI hi) v (nI i)) (fun r => (4 < e - b ∨ dv tb b (e - b) < lo ∨ hi < dv tb b (e - b)) ∧ f_X5_refuse I 2 = some r.2 ∨ (e - b ≤ 4 ∧ lo ≤ dv tb b (e - b) ∧ dv tb b (e - b) ≤ hi) ∧ r = (nI (dv tb b (e - b)), I)) := by
  have q := tkO_b ho
  have hd := dig_of hk ho
  intro m
  induction m with
  | zero =>
    intro fu i v hi' hf hb hv
    obtain ⟨g, rfl⟩ := Nat.exists_eq_succ_of_ne_zero (by omega : fu ≠ 0)
    have ei : i = e := by omega
    subst ei
    unfold f_X5_lookAtNumber_23
    have bad : ∀ c : Prop, c → wp (f_X5_lookAtNumber_77 I v) (fun r => c ∧ f_X5_refuse I 2 = some r.2 ∨ (i - b ≤ 4 ∧ lo ≤ dv tb b (i - b) ∧ dv tb b (i - b) ≤ hi) ∧ r = (nI (dv tb b (i - b)), I)) := by
      intro c hc
      unfold f_X5_lookAtNumber_77 f_X5_refuse
      split
      · exact wp_some (Or.inl ⟨hc, rfl⟩)
      · exact wp_some (Or.inl ⟨hc, rfl⟩)
    rw [h7, h6, pk_sub (by omega)]
    refine wp_pos (nI_le (by omega) (by omega)) ?_
    refine wp_ite (fun z => bad _ (Or.inl ((nI_ltI (a := 4) (by omega) (by omega)).mp z))) (fun z => ?_)
    have z4 : i - b ≤ 4 := by
      by_cases y : i - b ≤ 4
      · exact y
      · exact absurd ((nI_ltI (a := 4) (by omega) (by omega)).mpr (by omega)) z
    have hv' := hv z4
    have ds := (dv_s (tb := tb) (b := b) z4 (fun i h1 h2 => hd i h1 (by omega))).1
    have p : 10 ^ (i - b) ≤ 10000 := Nat.pow_le_pow_right (n := 10) (j := 4) (by omega) (by omega)
    rw [hv']
    rw [hv'] at bad
    refine wp_ite (fun z => bad _ (Or.inr (Or.inl ((nI_ltI (by omega) (by omega)).mp z)))) (fun z => ?_)
    refine wp_ite (fun z2 => ?_) (fun z2 => bad _ (Or.inr (Or.inr ?_)))
    · refine wp_some (Or.inr ⟨⟨z4, ?_, (nI_leI (by omega) (by omega)).mp z2⟩, rfl⟩)
      have : ¬ dv tb b (i - b) < lo := fun y => z ((nI_ltI (by omega) (by omega)).mpr y)
      omega
    · have : ¬ dv tb b (i - b) ≤ hi := fun y => z2 ((nI_leI (by omega) (by omega)).mpr y)
      omega
  | succ m ih =>
    intro fu i v hi' hf hb hv
    obtain ⟨g, rfl⟩ := Nat.exists_eq_succ_of_ne_zero (by omega : fu ≠ 0)
    unfold f_X5_lookAtNumber_23
    rw [h7]
    refine wp_neg (nI_ge (by omega) (by omega)) (wp_gd (inb_n (by omega)) (wp_bnd ?_))
    rw [nI_1]
    refine ih g (i + 1) _ (by omega) (by omega) (by omega) (fun z => ?_)
    have d := hd i hb (by omega)
    have st := (dv_s (tb := tb) (b := b) z (fun i h1 h2 => hd i h1 (by omega))).2 (i - b) (by omega)
    rw [show i + 1 - b = i - b + 1 by omega, st, hv z, nI_clamp (by omega), h5.2 i (by omega), sb_n (by omega), show (48 : Int32) = nI 48 from rfl, pk_sub (by omega), show (10 : Int32) = nI 10 from rfl, pk_mul, nI_add, show b + (i - b) = i by omega]
end
