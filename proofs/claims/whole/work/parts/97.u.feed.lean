/-! pairs of calls: feed -/
def byt (v : Int32) (k : Nat) : Nat := v.toBitVec.toNat / 2 ^ (24 - 8 * k) % 256
theorem byt_b (v : Int32) (k : Nat) : byt v k < 256 := Nat.mod_lt _ (by omega)
theorem i8_sb (x : Int32) : (x.toInt8.toInt32).toInt8.toInt32 = sb (x.toBitVec.toNat % 256) := by
  have e : (x.toInt8.toInt32).toInt8.toInt32 = x.toInt8.toInt32 := by simp
  rw [e, fa_eq, sb_toInt (Nat.mod_lt _ (by omega)), Int8.toInt_toInt32, Int32.toInt_toInt8]
  have q : x.toInt = if 2 * x.toBitVec.toNat < 2 ^ 32 then (x.toBitVec.toNat : Int) else (x.toBitVec.toNat : Int) - (2 ^ 32 : Nat) := BitVec.toInt_eq_toNat_cond x.toBitVec
  rw [q]
  unfold Int.bmod
  simp only
  split <;> split <;> split <;> omega
theorem c_byt (v : Int32) {k : Nat} (hk : k < 4) : (((jushr v (nI (24 - 8 * k))).toInt8.toInt32).toInt8.toInt32) = sb (byt v k) := by
  rw [i8_sb]
  unfold jushr byt
  rw [pk_ushr v (nI (24 - 8 * k)) (24 - 8 * k) (s_u _ (by omega))]
theorem r_byt (v : Int32) {k : Nat} (hk : k < 4) : jshr v (nI (24 - 8 * k)) &&& 255 = nI (byt v k) := by
  rw [pk_and _ 8 (by decide)]
  congr 1
  unfold jshr byt
  have h := pk_shr v (nI (24 - 8 * k) &&& 31) (24 - 8 * k) (s_l _ (by omega))
  have b1 := BitVec.toInt_eq_toNat_cond (v >>> (nI (24 - 8 * k) &&& 31)).toBitVec
  have b2 := BitVec.toInt_eq_toNat_cond v.toBitVec
  have h' : (v >>> (nI (24 - 8 * k) &&& 31)).toBitVec.toInt = v.toBitVec.toInt >>> (24 - 8 * k) := h
  rw [b1, b2, Int.shiftRight_eq_div_pow] at h'
  have l1 := (v >>> (nI (24 - 8 * k) &&& 31)).toBitVec.isLt
  have l2 := v.toBitVec.isLt
  generalize (v >>> (nI (24 - 8 * k) &&& 31)).toBitVec.toNat = x at *
  generalize v.toBitVec.toNat = y at *
  have : k = 0 ∨ k = 1 ∨ k = 2 ∨ k = 3 := by omega
  rcases this with rfl | rfl | rfl | rfl
  · simp only [Nat.mul_zero, Nat.sub_zero] at h' ⊢
    split at h' <;> split at h' <;> omega
  · simp only [Nat.mul_one, Nat.reduceSub] at h' ⊢
    split at h' <;> split at h' <;> omega
  · simp only [Nat.reduceMul, Nat.reduceSub] at h' ⊢
    split at h' <;> split at h' <;> omega
  · simp only [Nat.reduceMul, Nat.reduceSub] at h' ⊢
    split at h' <;> split at h' <;> omega
/-- the tape behind a word -/
def tp4 (tb : Nat → Nat) (t : Nat) (v : Int32) : Nat → Nat := fun i => if t ≤ i ∧ i < t + 4 then byt v (i - t) else tb i
def FT (I I' : Mem) : Prop := (∀ c, c ≠ 7 → c ≠ 47 → I' c = I c) ∧ ∀ f, f ≠ 1 → I' 7 0 0 f = I 7 0 0 f
theorem FT.tr {I I' I'' : Mem} (h : FT I I') (h2 : FT I' I'') : FT I I'' := ⟨fun c a b => (h2.1 c a b).trans (h.1 c a b), fun f a => (h2.2 f a).trans (h.2 f a)⟩
theorem sh8 {k : Nat} (hk : k < 4) : nI (24 - 8 * k) + (-8) = if k = 3 then -8 else nI (24 - 8 * (k + 1)) := by
  have : k = 0 ∨ k = 1 ∨ k = 2 ∨ k = 3 := by omega
  rcases this with rfl | rfl | rfl | rfl <;> decide
theorem c_putB {v : Int32} {t : Nat} {tb : Nat → Nat} (ht : t + 4 ≤ 600) : ∀ m fu k I, k + m = 4 → m < fu → I 7 0 0 1 = nI (t + k) → (∀ i, i < t + k → I 47 0 0 i = sb (tp4 tb t v i)) →
    wp (f_X7_putBytes_3 fu I v (if k = 4 then -8 else nI (24 - 8 * k))) (fun I' => FT I I' ∧ I' 7 0 0 1 = nI (t + 4) ∧ ∀ i, i < t + 4 → I' 47 0 0 i = sb (tp4 tb t v i)) := by
  intro m
  induction m with
  | zero =>
    intro fu k I hk hf h1 h47
    obtain ⟨g, rfl⟩ := Nat.exists_eq_succ_of_ne_zero (by omega : fu ≠ 0)
    have : k = 4 := by omega
    subst this
    unfold f_X7_putBytes_3
    exact wp_pos (by decide) (wp_some ⟨⟨fun _ _ _ => rfl, fun _ _ => rfl⟩, h1, h47⟩)
  | succ m ih =>
    intro fu k I hk hf h1 h47
    obtain ⟨g, rfl⟩ := Nat.exists_eq_succ_of_ne_zero (by omega : fu ≠ 0)
    rw [if_neg (by omega)]
    unfold f_X7_putBytes_3
    rw [h1, nI_clamp (by omega), c_byt v (by omega), sh8 (by omega)]
    refine wp_neg (nI_pos (by omega)) (wp_neg (nI_ge (b := 600) (by omega) (by omega)) (wp_gd (inb_n (by omega)) (wp_bnd (wp_bnd ?_))))
    have e : (if k = 3 then (-8 : Int32) else nI (24 - 8 * (k + 1))) = (if k + 1 = 4 then -8 else nI (24 - 8 * (k + 1))) := by
      by_cases q : k = 3
      · rw [if_pos q, if_pos (by omega)]
      · rw [if_neg q, if_neg (by omega)]
    rw [e]
    refine wp_mono (ih g (k + 1) _ (by omega) (by omega) ?_ (fun i hi => ?_)) ?_
    · rw [u5, if_pos rfl, u_c (by omega), h1, nI_1]; rfl
    · rw [u_c (by omega), u5]
      by_cases q : i = t + k
      · rw [if_pos q, q]; unfold tp4; rw [if_pos (by omega), show t + k - t = k by omega]
      · rw [if_neg q]; exact h47 i (by omega)
    · rintro I' ⟨F, a1, a2⟩
      refine ⟨⟨fun c h7 h47 => ?_, fun f hf => ?_⟩, a1, a2⟩
      · rw [F.1 c h7 h47, u_c h7, u_c h47]
      · rw [F.2 f hf, u5, if_neg hf, u_c (by omega)]
theorem c_put4 {v : Int32} {t : Nat} {tb : Nat → Nat} {I : Mem} (ht : t + 4 ≤ 600) (h1 : I 7 0 0 1 = nI t) (h47 : ∀ i, i < t → I 47 0 0 i = sb (tb i)) :
    wp (f_X7_putBytes I v) (fun I' => FT I I' ∧ I' 7 0 0 1 = nI (t + 4) ∧ ∀ i, i < t + 4 → I' 47 0 0 i = sb (tp4 tb t v i)) := by
  unfold f_X7_putBytes
  exact c_putB ht 4 FU 0 I (by omega) (by unfold FU; omega) h1 (fun i hi => by unfold tp4; rw [if_neg (by omega)]; exact h47 i (by omega))
def wd5 (v1 v2 v3 v4 v5 : Int32) (q : Nat) : Int32 := if q = 0 then v1 else if q = 1 then v2 else if q = 2 then v3 else if q = 3 then v4 else v5
def tpF (tb : Nat → Nat) (t : Nat) (v1 v2 v3 v4 v5 : Int32) : Nat → Nat := fun i => if t ≤ i ∧ i < t + 20 then byt (wd5 v1 v2 v3 v4 v5 ((i - t) / 4)) ((i - t) % 4) else tb i
theorem tpF_eq {tb : Nat → Nat} {t : Nat} {v1 v2 v3 v4 v5 : Int32} (i : Nat) : tp4 (tp4 (tp4 (tp4 (tp4 tb t v1) (t + 4) v2) (t + 4 + 4) v3) (t + 4 + 4 + 4) v4) (t + 4 + 4 + 4 + 4) v5 i = tpF tb t v1 v2 v3 v4 v5 i := by
  unfold tpF
  by_cases q : t ≤ i ∧ i < t + 20
  · rw [if_pos q]
    have c : (i - t) / 4 = 0 ∨ (i - t) / 4 = 1 ∨ (i - t) / 4 = 2 ∨ (i - t) / 4 = 3 ∨ (i - t) / 4 = 4 := by omega
    rcases c with c | c | c | c | c
    · unfold tp4; rw [if_neg (by omega), if_neg (by omega), if_neg (by omega), if_neg (by omega), if_pos (by omega), c, show (i - t) % 4 = i - t by omega]; rfl
    · unfold tp4; rw [if_neg (by omega), if_neg (by omega), if_neg (by omega), if_pos (by omega), c, show (i - t) % 4 = i - (t + 4) by omega]; rfl
    · unfold tp4; rw [if_neg (by omega), if_neg (by omega), if_pos (by omega), c, show (i - t) % 4 = i - (t + 4 + 4) by omega]; rfl
    · unfold tp4; rw [if_neg (by omega), if_pos (by omega), c, show (i - t) % 4 = i - (t + 4 + 4 + 4) by omega]; rfl
    · unfold tp4; rw [if_pos (by omega), c, show (i - t) % 4 = i - (t + 4 + 4 + 4 + 4) by omega]; rfl
  · rw [if_neg q]; unfold tp4; rw [if_neg (by omega), if_neg (by omega), if_neg (by omega), if_neg (by omega), if_neg (by omega)]
theorem tpF_b {tb : Nat → Nat} {t : Nat} {v1 v2 v3 v4 v5 : Int32} (h : ∀ i, tb i < 256) (i : Nat) : tpF tb t v1 v2 v3 v4 v5 i < 256 := by
  unfold tpF; split
  · exact byt_b _ _
  · exact h i
theorem r_feed {v1 v2 v3 v4 v5 : Int32} {t : Nat} {tb : Nat → Nat} (ht : t + 20 ≤ 600) : ∀ m fu k R, k + m = 20 → m < fu → R 8 0 0 14 = nI (t + k) → (∀ i, i < t + k → R 60 0 0 i = nI (tpF tb t v1 v2 v3 v4 v5 i)) →
    wp (f_X8_feed_23 fu R v1 v2 v3 v4 v5 (nI k)) (fun r => r.1 = nI (t + 20) ∧ r.2 8 0 0 14 = nI (t + 20) ∧ (∀ i, i < t + 20 → r.2 60 0 0 i = nI (tpF tb t v1 v2 v3 v4 v5 i)) ∧ Fr [(8, 0), (60, 0)] R r.2 ∧ ∀ f, f ≠ 14 → r.2 8 0 0 f = R 8 0 0 f) := by
  intro m
  induction m with
  | zero =>
    intro fu k R hk hf h14 h60
    obtain ⟨g, rfl⟩ := Nat.exists_eq_succ_of_ne_zero (by omega : fu ≠ 0)
    have : k = 20 := by omega
    subst this
    unfold f_X8_feed_23
    exact wp_pos (by decide) (wp_some ⟨h14, h14, h60, Fr.rfl, fun _ _ => rfl⟩)
  | succ m ih =>
    intro fu k R hk hf h14 h60
    obtain ⟨g, rfl⟩ := Nat.exists_eq_succ_of_ne_zero (by omega : fu ≠ 0)
    have key : ∀ w, w = wd5 v1 v2 v3 v4 v5 (k / 4) → wp (f_X8_feed_76 (f_X8_feed_23 g) R v1 v2 v3 v4 v5 (nI k) w) (fun r => r.1 = nI (t + 20) ∧ r.2 8 0 0 14 = nI (t + 20) ∧ (∀ i, i < t + 20 → r.2 60 0 0 i = nI (tpF tb t v1 v2 v3 v4 v5 i)) ∧ Fr [(8, 0), (60, 0)] R r.2 ∧ ∀ f, f ≠ 14 → r.2 8 0 0 f = R 8 0 0 f) := by
      intro w hw
      have sh : (24 : Int32) - (8 : Int32) * jrem (nI k) 4 = nI (24 - 8 * (k % 4)) := by
        unfold jrem
        have r := pk_rem (a := k) (d := 4) (by omega) (by omega) (by omega)
        rw [show (4 : Int32) = nI 4 from rfl, r, show (8 : Int32) = nI 8 from rfl, pk_mul, show (24 : Int32) = nI 24 from rfl, pk_sub (by omega)]
      unfold f_X8_feed_76
      rw [h14, nI_clamp (by omega), sh, r_byt w (by omega), nI_1]
      refine wp_gd (inb_n (by omega)) (wp_bnd (wp_bnd ?_))
      refine wp_mono (ih g (k + 1) _ (by omega) (by omega) ?_ (fun i hi => ?_)) ?_
      · rw [u5, if_pos rfl, u_c (by omega), h14, nI_1]; rfl
      · rw [u_c (by omega), u5]
        by_cases q : i = t + k
        · rw [if_pos q, q]; unfold tpF; rw [if_pos (by omega), show t + k - t = k by omega, hw]
        · rw [if_neg q]; exact h60 i (by omega)
      · rintro r ⟨a1, a2, a3, a4, a5⟩
        refine ⟨a1, a2, a3, ((Fr.up (by simp)).tr (Fr.up (by simp))).tr a4, fun f hf => ?_⟩
        rw [a5 f hf, u5, if_neg hf, u_c (by omega)]
    unfold f_X8_feed_23
    refine wp_neg (nI_ge (b := 20) (by omega) (by omega)) ?_
    by_cases q4 : 4 ≤ k
    · refine wp_pos (nI_le (a := 4) q4 (by omega)) ?_
      by_cases q8 : 8 ≤ k
      · refine wp_pos (nI_le (a := 8) q8 (by omega)) ?_
        by_cases q12 : 12 ≤ k
        · refine wp_pos (nI_le (a := 12) q12 (by omega)) ?_
          by_cases q16 : 16 ≤ k
          · exact wp_pos (nI_le (a := 16) q16 (by omega)) (key _ (by rw [show k / 4 = 4 by omega]; rfl))
          · exact wp_neg (nI_ge (b := 16) (by omega) (by omega)) (key _ (by rw [show k / 4 = 3 by omega]; rfl))
        · exact wp_neg (nI_ge (b := 12) (by omega) (by omega)) (key _ (by rw [show k / 4 = 2 by omega]; rfl))
      · exact wp_neg (nI_ge (b := 8) (by omega) (by omega)) (key _ (by rw [show k / 4 = 1 by omega]; rfl))
    · exact wp_neg (nI_ge (b := 4) (by omega) (by omega)) (key _ (by rw [show k / 4 = 0 by omega]; rfl))
def fdA (a : Abs) (v1 v2 v3 v4 v5 : Int32) : Abs := (yL a, yE a, yhi a, yV a, ytn a + 20, tpF (ytb a) (ytn a) v1 v2 v3 v4 v5, yfp a)
section
variable {I : Mem} {P : PMem}
theorem p_feed (h : G I P) (v1 v2 v3 v4 v5 : Int32) : Pq (f_X7_feed I v1 v2 v3 v4 v5) (fun I => f_X8_feed I v1 v2 v3 v4 v5) P := by
  obtain ⟨l, a, hA, hC, hR⟩ := h
  have h6 := hA.2.2.2.1
  have t1 : I 7 0 0 1 = nI (ytn a) := hC.2.2.2.2.2.1.1
  have t14 : I 8 0 0 14 = nI (ytn a) := hR.2.2.2.2.1.1
  have le : nI (ytn a) + 20 ≤ 600 ↔ ytn a + 20 ≤ 600 := by
    rw [show (20 : Int32) = nI 20 from rfl, nI_add, show (600 : Int32) = nI 600 from rfl, nI_leI (by omega) (by omega)]
  unfold Pq f_X7_feed
  by_cases q : ytn a + 20 ≤ 600
  · rw [if_pos (by rw [t1]; exact le.mpr q)]
    refine wp_bind (c_put4 (v := v1) (t := ytn a) (tb := ytb a) (by omega) t1 hC.2.2.2.2.2.1.2) ?_
    rintro I1 ⟨F1, a1, b1⟩
    refine wp_bind (c_put4 (v := v2) (by omega) a1 b1) ?_
    rintro I2 ⟨F2, a2, b2⟩
    refine wp_bind (c_put4 (v := v3) (by omega) a2 b2) ?_
    rintro I3 ⟨F3, a3, b3⟩
    refine wp_bind (c_put4 (v := v4) (by omega) a3 b3) ?_
    rintro I4 ⟨F4, a4, b4⟩
    refine wp_bind (c_put4 (v := v5) (by omega) a4 b4) ?_
    rintro I5 ⟨F5, a5, b5⟩
    refine wp_some ?_
    have F := (((F1.tr F2).tr F3).tr F4).tr F5
    have kc : Kc I I5 := fun c hc => F.1 c (by omega) (by omega)
    have a5' : I5 7 0 0 1 = nI (ytn a + 20) := a5
    have hC5 : GC I5 P l (fdA a v1 v2 v3 v4 v5) := by
      obtain ⟨p, c1, ⟨x1, x2, x3, x4⟩, c3, c4, c5, c6, c7⟩ := hC
      have eB : ∀ c, c ∈ [0, 6, 9, 44, 45, 46] → I5 c = I c := by
        intro c hc
        simp only [List.mem_cons, List.not_mem_nil, or_false] at hc
        exact F.1 c (by omega) (by omega)
      have eW : ∀ c, c ∈ [6, 44, 45, 46] → I5 c = I c := by
        intro c hc
        simp only [List.mem_cons, List.not_mem_nil, or_false] at hc
        exact F.1 c (by omega) (by omega)
      refine ⟨p, CL_eq c1 (fun c hc => ?_), ⟨CB_eq x1 eB, cRw_eq x2 eW, cRw_eq x3 eW, fun k hk => by rw [F.1 10 (by omega) (by omega)]; exact x4 k hk⟩, by rw [F.2 7 (by omega)]; exact c3, fun q => ?_, ⟨a5', fun k hk => ?_⟩, by rw [F.2 11 (by omega)]; exact c6, ?_⟩
      · simp only [List.mem_cons, List.not_mem_nil, or_false] at hc
        rw [F.1 c (by omega) (by omega)]
      · obtain ⟨w1, w2, w3, w4⟩ := c4 q
        exact ⟨CB_eq w1 eB, cRw_eq w2 eW, cRw_eq w3 eW, fun k hk => by rw [F.1 10 (by omega) (by omega)]; exact w4 k hk⟩
      · have hk' : k < ytn a + 20 := hk
        rw [b5 k (by omega), tpF_eq]; rfl
      · rw [F.2 10 (by omega)]
        refine c7.imp id (fun h => ⟨h.1, stl_eq h.2 (fun c hc => ?_) (by rw [F.1 3 (by omega) (by omega)]) (by rw [F.1 36 (by omega) (by omega)]) rfl⟩)
        simp only [List.mem_cons, List.not_mem_nil, or_false] at hc
        exact F.1 c (by omega) (by omega)
    obtain ⟨r1, r2⟩ := r_code (GR_k hR kc) 0
    have t14' : upd4 I5 8 0 0 2 0 8 0 0 14 = nI (ytn a) := r1.2.2.2.2.1.1
    show wp (f_X8_feed I5 v1 v2 v3 v4 v5) _
    unfold f_X8_feed
    rw [bnd_e, if_pos (by rw [t14']; exact le.mpr q), n_0]
    refine wp_mono (r_feed (v1 := v1) (v2 := v2) (v3 := v3) (v4 := v4) (v5 := v5) (t := ytn a) (tb := ytb a) q 20 FU 0 _ (by omega) (by unfold FU; omega) t14' (fun i hi => ?_)) ?_
    · unfold tpF; rw [if_neg (by omega)]; exact r1.2.2.2.2.1.2 i (by omega)
    · rintro w ⟨w1, w2, w3, w4, w5⟩
      refine ⟨by rw [w1]; exact a5', l, fdA a v1 v2 v3 v4 v5, ⟨hA.1, hA.2.1, hA.2.2.1, ?_, tpF_b hA.2.2.2.2⟩, GC_k hC5 (r2.tr (w4.kr (by simp))), ?_⟩
      · show ytn a + 20 ≤ 600; omega
      · obtain ⟨q1, q2, q3, q4, q5, q6⟩ := r1
        have cc : ∀ c, c ≠ 8 → c ≠ 60 → w.2 c = upd4 I5 8 0 0 2 0 c := fun c h8 h60 => w4.gc (fun z => by simp; omega)
        refine ⟨LdR_eq hA.1 q1 (fun c i hc => by rw [cc c (by omega) (by omega)]), ?_, by rw [w5 54 (by omega)]; exact q3, fun z => ?_, ⟨w2, w3⟩, by rw [w5 23 (by omega)]; exact q6⟩
        · unfold RX RB rR pkd rSn at q2 ⊢
          rw [w5 29 (by omega), w5 30 (by omega), w5 31 (by omega), w5 32 (by omega), w5 33 (by omega), w5 34 (by omega), cc 53 (by omega) (by omega), cc 62 (by omega) (by omega), cc 63 (by omega) (by omega), cc 64 (by omega) (by omega), cc 65 (by omega) (by omega), cc 77 (by omega) (by omega), cc (77 + 1) (by omega) (by omega), cc (77 + 2) (by omega) (by omega), cc 59 (by omega) (by omega)]
          exact q2
        · have := q4 z
          unfold RV pkd rSn at this ⊢
          rw [w5 55 (by omega), w5 56 (by omega), cc 80 (by omega) (by omega), cc 81 (by omega) (by omega), cc 82 (by omega) (by omega), cc (82 + 1) (by omega) (by omega), cc (82 + 2) (by omega) (by omega), cc 85 (by omega) (by omega)]
          exact this
  · rw [if_neg (by rw [t1]; exact fun y => q (le.mp y))]
    obtain ⟨r1, r2⟩ := r_code hR 0
    refine wp_some ?_
    show wp (f_X8_feed I v1 v2 v3 v4 v5) _
    unfold f_X8_feed
    rw [bnd_e, if_neg (by rw [show upd4 I 8 0 0 2 0 8 0 0 14 = nI (ytn a) from r1.2.2.2.2.1.1]; exact fun y => q (le.mp y))]
    exact wp_some ⟨rfl, l, a, hA, GC_k hC r2, r1⟩
end
