/-! the reference's court: three, and who is guilty -/
def jB (I : Mem) (C J c : Nat) (tl : Nat → Nat → Bool) (sd : Nat → Nat → Int32) (stn : Nat → Nat → Nat) (gv : Nat → Nat → Bool) (vd : Nat → Bool) (mt : Nat → Nat → Int32) : Prop :=
  I 50 0 0 4 = nI J ∧ J ≤ 5 ∧ c < C ∧ C ≤ 6 ∧ vR I C J tl sd stn gv ∧ (∀ j, j < J → I 74 0 0 (5 * c + j) = bI (vd j)) ∧ ∀ a b, a < J → b < J → I 70 0 0 (5 * a + b) = nv (mt a b)
theorem jB_fr {I I' : Mem} {S : List (Nat × Nat)} {C J c : Nat} {tl : Nat → Nat → Bool} {sd : Nat → Nat → Int32} {stn : Nat → Nat → Nat} {gv : Nat → Nat → Bool} {vd : Nat → Bool} {mt : Nat → Nat → Int32} (h : jB I C J c tl sd stn gv vd mt) (F : Fr S I I') (hs' : ∀ c, c ∈ [50, 70, 71, 72, 73, 74] → ¬ (c, 0) ∈ S) : jB I' C J c tl sd stn gv vd mt := by
  unfold jB vR at *
  rw [F.g (hs' 50 (by decide)), F.g (hs' 70 (by decide)), F.g (hs' 71 (by decide)), F.g (hs' 72 (by decide)), F.g (hs' 73 (by decide)), F.g (hs' 74 (by decide))]
  exact h
section
variable {T C J c : Nat} {tl : Nat → Nat → Bool} {sd st : Nat → Nat → Int32} {stn : Nat → Nat → Nat} {gv : Nat → Nat → Bool} {vd : Nat → Bool} {mt : Nat → Nat → Int32}
theorem r_good {I : Mem} (h : jB I C J c tl sd stn gv vd mt) {j : Nat} (hj : j < J) : f_X8_isGood I (nI c) (nI j) = some (bI ((tl c j && gv c j) && !vd j)) := by
  obtain ⟨hJ, hJ5, hc, hC, hv, h74, h70⟩ := h
  have e1 := (hv c hc j hj).1
  have e2 := h74 j hj
  unfold f_X8_isGood
  rw [n_5, idx_n, bnd_e, gd_t (inb_n (by omega)), nI_clamp (by omega), e1, e2]
  cases tl c j <;> cases gv c j <;> cases vd j <;> rfl
theorem jmax_b {a b : Int32} {k : Int} (ha : a.toInt ≤ k) (hb : b.toInt ≤ k) : (jmax a b).toInt ≤ k := by
  unfold jmax; split <;> assumption
theorem d3_b {s : Nat → Int32} {x y w : Nat} (hx : (s x).toInt ≤ 114) (hy : (s y).toInt ≤ 114) (hw : (s w).toInt ≤ 114) : (d3 s x y w).toInt ≤ 114 := jmax_b hx (jmax_b hy hw)
theorem apt_nv {m d : Int32} (hd : d.toInt ≤ 114) : (nv m ≤ d) ↔ apt m d = false := by
  unfold apt
  by_cases e : m = -1
  · rw [e, show nv (-1) = nI 100000 from rfl]
    constructor
    · intro h; rw [fa_le, nI_toInt (by omega)] at h; omega
    · intro h; simp at h
  · have : nv m = m := if_neg e
    rw [this]; simp [e]
theorem r_three {I : Mem} (h : jB I C J c tl sd stn gv vd mt) (hs : sdW C J T tl sd st stn) {a b d : Nat} (ha : a < J) (hb : b < J) (hd : d < J) :
    f_X8_three I (nI c) (nI a) (nI b) (nI d) = some (if ok3 (fun j => (tl c j && gv c j) && !vd j) (st c) (sd c) mt a b d = true then d3 (sd c) a b d else 100000) := by
  have ⟨hJ, hJ5, hc, hC, hv, h74, h70⟩ := h
  have g1 := r_good h ha
  have g2 := r_good h hb
  have g3 := r_good h hd
  have m1 := h70 a b ha hb
  have m2 := h70 a d ha hd
  have m3 := h70 b d hb hd
  have i1 : inb (nI (5 * c + a)) 30 = true := inb_n (by omega)
  have i2 : inb (nI (5 * c + b)) 30 = true := inb_n (by omega)
  have i3 : inb (nI (5 * c + d)) 30 = true := inb_n (by omega)
  have i4 : inb (nI (5 * a + b)) 25 = true := inb_n (by omega)
  have i5 : inb (nI (5 * a + d)) 25 = true := inb_n (by omega)
  have i6 : inb (nI (5 * b + d)) 25 = true := inb_n (by omega)
  have l1 : (nI (5 * c + a)).toNatClampNeg = 5 * c + a := nI_clamp (by omega)
  have l2 : (nI (5 * c + b)).toNatClampNeg = 5 * c + b := nI_clamp (by omega)
  have l3 : (nI (5 * c + d)).toNatClampNeg = 5 * c + d := nI_clamp (by omega)
  have l4 : (nI (5 * a + b)).toNatClampNeg = 5 * a + b := nI_clamp (by omega)
  have l5 : (nI (5 * a + d)).toNatClampNeg = 5 * a + d := nI_clamp (by omega)
  have l6 : (nI (5 * b + d)).toNatClampNeg = 5 * b + d := nI_clamp (by omega)
  unfold f_X8_three
  rw [n_5]
  simp only [bnd, gd, idx_n, i1, i2, i3, i4, i5, i6, l1, l2, l3, l4, l5, l6, if_true, g1, g2, g3, Option.bind_some, bI_0, m1, m2, m3]
  have no : ∀ j, j = a ∨ j = b ∨ j = d → ((tl c j && gv c j) && !vd j) = false → ok3 (fun j => (tl c j && gv c j) && !vd j) (st c) (sd c) mt a b d = false := by
    intro j hj q
    unfold ok3
    rcases hj with rfl | rfl | rfl <;> simp [q]
  cases q1 : ((tl c a && gv c a) && !vd a)
  · rw [if_pos rfl, no a (Or.inl rfl) q1]; rfl
  · cases q2 : ((tl c b && gv c b) && !vd b)
    · rw [if_neg (by decide), if_pos rfl, no b (Or.inr (Or.inl rfl)) q2]; rfl
    · cases q3 : ((tl c d && gv c d) && !vd d)
      · rw [if_neg (by decide), if_neg (by decide), if_pos rfl, no d (Or.inr (Or.inr rfl)) q3]; rfl
      · have t1 : tl c a = true := by revert q1; cases tl c a <;> simp
        have t2 : tl c b = true := by revert q2; cases tl c b <;> simp
        have t3 : tl c d = true := by revert q3; cases tl c d <;> simp
        obtain ⟨a1, a2⟩ := (hv c hc a ha).2 t1
        obtain ⟨b1, b2⟩ := (hv c hc b hb).2 t2
        obtain ⟨d1, d2⟩ := (hv c hc d hd).2 t3
        obtain ⟨s1, s2, s3, s4⟩ := (hs c hc a ha).1 t1
        obtain ⟨u1, u2, u3, u4⟩ := (hs c hc b hb).1 t2
        obtain ⟨x1, x2, x3, x4⟩ := (hs c hc d hd).1 t3
        have hd3 := d3_b (s := sd c) s2 u2 x2
        rw [a1, a2, b1, b2, d1, d2, ← s3, ← u3, ← x3]
        rw [show jmax (sd c a) (jmax (sd c b) (sd c d)) = d3 (sd c) a b d from rfl]
        simp only [apt_nv hd3]
        have hok : ok3 (fun j => (tl c j && gv c j) && !vd j) (st c) (sd c) mt a b d = ((!decide (st c a = st c b) && (!decide (st c a = st c d) && !decide (st c b = st c d))) &&
    (apt (mt a b) (d3 (sd c) a b d) && (apt (mt a d) (d3 (sd c) a b d) && apt (mt b d) (d3 (sd c) a b d)))) := by
          unfold ok3
          simp only [q1, q2, q3, Bool.true_and]
        rw [hok, if_neg (by decide), if_neg (by decide), if_neg (by decide)]
        by_cases y1 : st c a = st c b
        · simp [y1]
        · by_cases y2 : st c a = st c d
          · simp [y1, y2]
          · by_cases y3 : st c b = st c d
            · simp [y2, y3]
            · simp only [y1, y2, y3, if_false, decide_false, Bool.not_false, Bool.true_and]
              cases apt (mt a b) (d3 (sd c) a b d)
              · simp
              · cases apt (mt a d) (d3 (sd c) a b d)
                · simp
                · cases apt (mt b d) (d3 (sd c) a b d)
                  · simp
                  · simp
/-- the least day so far -/
def jst (I : Mem) (c : Nat) (s : Int32 × Int32) : Prop := I 76 0 0 c = s.1 ∧ I 75 0 0 c = (if s.1 = 0 then 100000 else s.2)
def Fj (c : Nat) (I I' : Mem) : Prop := Fr [(75, 0), (76, 0)] I I' ∧ ∀ c', c' ≠ c → I' 75 0 0 c' = I 75 0 0 c' ∧ I' 76 0 0 c' = I 76 0 0 c'
theorem Fj.tr {c : Nat} {I I' I'' : Mem} (h : Fj c I I') (h2 : Fj c I' I'') : Fj c I I'' := ⟨h.1.tr h2.1, fun c' hc => ⟨((h2.2 c' hc).1).trans (h.2 c' hc).1, ((h2.2 c' hc).2).trans (h.2 c' hc).2⟩⟩
theorem r_jc_88 (hs : sdW C J T tl sd st stn) {a b : Nat} (hab : a < b) (hb : b < J) {k73 : Mem → Int32 → Int32 → Int32 → Option Mem} {Q : Mem → Prop} : ∀ m fu k I s, k + m = J → b < k → m < fu →
    jB I C J c tl sd stn gv vd mt → jst I c s → trI J (d3 (sd c)) (ok3 (fun j => (tl c j && gv c j) && !vd j) (st c) (sd c) mt) s →
    (∀ I', Fj c I I' → jst I' c (tr3 (ok3 (fun j => (tl c j && gv c j) && !vd j) (st c) (sd c) mt) (d3 (sd c)) a b k m s) → wp (k73 I' (nI c) (nI a) (nI (b + 1))) Q) →
    wp (f_X8_judgeCase_88 k73 fu I (nI c) (nI a) (nI b) (nI k)) Q := by
  intro m
  induction m with
  | zero =>
    intro fu k I s hk hbk hf h hj hi hK
    obtain ⟨g, rfl⟩ := Nat.exists_eq_succ_of_ne_zero (by omega : fu ≠ 0)
    have hJ5 := h.2.1
    unfold f_X8_judgeCase_88
    rw [h.1, nI_1]
    exact wp_pos (by rw [nI_leI (by omega) (by omega)]; omega) (hK I ⟨Fr.rfl, fun _ _ => ⟨rfl, rfl⟩⟩ hj)
  | succ m ih =>
    intro fu k I s hk hbk hf h hj hi hK
    obtain ⟨g, rfl⟩ := Nat.exists_eq_succ_of_ne_zero (by omega : fu ≠ 0)
    have ⟨hJ, hJ5, hc, hC, hv, h74, h70⟩ := h
    have hkJ : k < J := by omega
    have et := r_three h hs (by omega : a < J) hb hkJ
    unfold f_X8_judgeCase_88
    rw [hJ, nI_1]
    refine wp_neg (by rw [nI_leI (by omega) (by omega)]; omega) ?_
    refine wp_bindE _ et (wp_gd (inb_n (by omega)) ?_)
    rw [nI_clamp (by omega), hj.2]
    have hb3 : ((jshl 1 (nI a) ||| jshl 1 (nI b)) ||| jshl 1 (nI k)) = b3 a b k := rfl
    rw [hb3]
    have d114 : ∀ x y w, x < y → y < w → w < J → ok3 (fun j => (tl c j && gv c j) && !vd j) (st c) (sd c) mt x y w = true → (d3 (sd c) x y w).toInt ≤ 114 := by
      intro x y w h1 h2 h3 h5
      unfold ok3 at h5
      simp only [Bool.and_eq_true] at h5
      have t1 := h5.1.1.1.1
      have t2 := h5.1.2.1.1.1
      have t3 := h5.1.2.2.1.1
      exact d3_b ((hs c hc x (by omega)).1 t1).2.1 ((hs c hc y (by omega)).1 t2).2.1 ((hs c hc w (by omega)).1 t3).2.1
    have hs2 : s.1 = 0 ∨ (s.2).toInt ≤ 114 := by
      rcases hi with e | ⟨x, y, w, h1, h2, h3, h5, e⟩
      · rw [e]; exact Or.inl rfl
      · rw [e]; exact Or.inr (d114 x y w h1 h2 h3 h5)
    have hcond : ((if ok3 (fun j => (tl c j && gv c j) && !vd j) (st c) (sd c) mt a b k = true then d3 (sd c) a b k else 100000) < (if s.1 = 0 then 100000 else s.2)) ↔
        (ok3 (fun j => (tl c j && gv c j) && !vd j) (st c) (sd c) mt a b k && (decide (s.1 = 0) || decide (d3 (sd c) a b k < s.2))) = true := by
      have hl : (100000 : Int32).toInt = 100000 := rfl
      cases e : ok3 (fun j => (tl c j && gv c j) && !vd j) (st c) (sd c) mt a b k
      · rw [if_neg (by decide), Bool.false_and]
        constructor
        · intro q
          exfalso
          rw [fa_lt, hl] at q
          by_cases e0 : s.1 = 0
          · rw [if_pos e0, hl] at q; omega
          · rw [if_neg e0] at q
            have := hs2.resolve_left e0; omega
        · intro q; cases q
      · rw [if_pos rfl, Bool.true_and]
        have := d114 a b k hab hbk hkJ e
        by_cases e0 : s.1 = 0
        · rw [if_pos e0, fa_lt, hl]
          simp [e0]; omega
        · rw [if_neg e0]; simp [e0]
    have nxt : ∀ I2 s2, Fj c I I2 → jst I2 c s2 → s2 = stp (ok3 (fun j => (tl c j && gv c j) && !vd j) (st c) (sd c) mt) (d3 (sd c)) a b k s → wp (f_X8_judgeCase_88 k73 g I2 (nI c) (nI a) (nI b) (nI (k + 1))) Q := by
      intro I2 s2 F2 j2 e2
      refine ih g (k + 1) I2 s2 (by omega) (by omega) (by omega) (jB_fr h F2.1 (by simp)) j2 (by rw [e2]; exact stp_inv hab hbk hkJ hi) (fun I' F' j' => hK I' (F2.tr F') ?_)
      rw [tr3, ← e2]; exact j'
    refine wp_ite (fun q => wp_bnd (wp_bnd ?_)) (fun q => ?_)
    · have q' := hcond.mp q
      rw [Bool.and_eq_true] at q'
      have hok := q'.1
      rw [if_pos hok, nI_1]
      refine nxt _ (b3 a b k, d3 (sd c) a b k) ?_ ?_ ?_
      · refine ⟨(Fr.up (by simp)).tr (Fr.up (by simp)), fun c' hc' => ?_⟩
        rw [u_c (show (75 : Nat) ≠ 76 by decide), u_if, if_neg (fun q => hc' q.2), u_if, if_neg (fun q => hc' q.2), u_c (show (76 : Nat) ≠ 75 by decide)]
        exact ⟨rfl, rfl⟩
      · refine ⟨u_at, ?_⟩
        rw [u_c (show (75 : Nat) ≠ 76 by decide), u_at, if_neg (b3_ne (by omega) (by omega) (by omega))]
      · rw [stp, if_pos (hcond.mp q)]
    · rw [nI_1]
      exact nxt I s ⟨Fr.rfl, fun _ _ => ⟨rfl, rfl⟩⟩ hj (by rw [stp, if_neg (fun h => q (hcond.mpr h))])
theorem r_jc_73 (hs : sdW C J T tl sd st stn) {a : Nat} (ha : a < J) {k59 : Mem → Int32 → Int32 → Option Mem} {Q : Mem → Prop} : ∀ m fu k I s, k + m = J → a < k → m < fu →
    jB I C J c tl sd stn gv vd mt → jst I c s → trI J (d3 (sd c)) (ok3 (fun j => (tl c j && gv c j) && !vd j) (st c) (sd c) mt) s →
    (∀ I', Fj c I I' → jst I' c (tr2 (ok3 (fun j => (tl c j && gv c j) && !vd j) (st c) (sd c) mt) (d3 (sd c)) a k m s) → wp (k59 I' (nI c) (nI (a + 1))) Q) →
    wp (f_X8_judgeCase_73 k59 fu I (nI c) (nI a) (nI k)) Q := by
  intro m
  induction m with
  | zero =>
    intro fu k I s hk hbk hf h hj hi hK
    obtain ⟨g, rfl⟩ := Nat.exists_eq_succ_of_ne_zero (by omega : fu ≠ 0)
    have hJ5 := h.2.1
    unfold f_X8_judgeCase_73
    rw [h.1, nI_1]
    exact wp_pos (by rw [nI_leI (by omega) (by omega)]; omega) (hK I ⟨Fr.rfl, fun _ _ => ⟨rfl, rfl⟩⟩ hj)
  | succ m ih =>
    intro fu k I s hk hbk hf h hj hi hK
    obtain ⟨g, rfl⟩ := Nat.exists_eq_succ_of_ne_zero (by omega : fu ≠ 0)
    have hJ5 := h.2.1
    unfold f_X8_judgeCase_73
    rw [h.1]
    refine wp_neg (by rw [nI_leI (by omega) (by omega)]; omega) (wp_bnd ?_)
    rw [nI_1]
    refine r_jc_88 hs hbk (by omega) m FU (k + 1) I s (by omega) (by omega) (by unfold FU; omega) h hj hi ?_
    intro I' F' j'
    exact ih g (k + 1) I' _ (by omega) (by omega) (by omega) (jB_fr h F'.1 (by simp)) j' (tr3_inv hbk m (k + 1) s (by omega) (by omega) hi) (fun I2 F2 j2 => hK I2 (F'.tr F2) j2)
theorem r_jc_59 (hs : sdW C J T tl sd st stn) : ∀ m fu k I s, k + m = J → m < fu →
    jB I C J c tl sd stn gv vd mt → jst I c s → trI J (d3 (sd c)) (ok3 (fun j => (tl c j && gv c j) && !vd j) (st c) (sd c) mt) s →
    wp (f_X8_judgeCase_59 fu I (nI c) (nI k)) (fun I' => Fj c I I' ∧ jst I' c (tr1 (ok3 (fun j => (tl c j && gv c j) && !vd j) (st c) (sd c) mt) (d3 (sd c)) k m s)) := by
  intro m
  induction m with
  | zero =>
    intro fu k I s hk hf h hj hi
    obtain ⟨g, rfl⟩ := Nat.exists_eq_succ_of_ne_zero (by omega : fu ≠ 0)
    have hJ5 := h.2.1
    unfold f_X8_judgeCase_59
    rw [h.1]
    exact wp_pos (by rw [nI_leI (by omega) (by omega)]; omega) (wp_some ⟨⟨Fr.rfl, fun _ _ => ⟨rfl, rfl⟩⟩, hj⟩)
  | succ m ih =>
    intro fu k I s hk hf h hj hi
    obtain ⟨g, rfl⟩ := Nat.exists_eq_succ_of_ne_zero (by omega : fu ≠ 0)
    have hJ5 := h.2.1
    unfold f_X8_judgeCase_59
    rw [h.1]
    refine wp_neg (by rw [nI_leI (by omega) (by omega)]; omega) (wp_bnd ?_)
    rw [nI_1]
    refine r_jc_73 hs (by omega : k < J) m FU (k + 1) I s (by omega) (by omega) (by unfold FU; omega) h hj hi ?_
    intro I' F' j'
    refine wp_mono (ih g (k + 1) I' _ (by omega) (by omega) (jB_fr h F'.1 (by simp)) j' (tr2_inv m (k + 1) s (by omega) (by omega) hi)) ?_
    rintro I2 ⟨F2, j2⟩
    exact ⟨F'.tr F2, j2⟩
end
