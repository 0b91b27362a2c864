/-! the next token, class -/
section
variable {n : Nat} {tb : Nat → Nat}
theorem ff_step {p : Nat → Bool} {k m : Nat} (h : k < m) : ff p k (m - k) = if p k then k else ff p (k + 1) (m - (k + 1)) := by
  obtain ⟨q, hq⟩ : ∃ q, m - k = q + 1 := ⟨m - k - 1, by omega⟩
  rw [hq, ff, show m - (k + 1) = q by omega]
theorem ff_end {p : Nat → Bool} {k m : Nat} (h : m ≤ k) : ff p k (m - k) = k := by
  rw [show m - k = 0 by omega]; rfl
theorem tX_b {k i : Nat} (h : i ≤ n) : i ≤ tX n tb k i ∧ tX n tb k i ≤ n := by
  have := ff_b (fun i => decide (knd (tb i) ≠ k)) (n - i) i
  unfold tX; omega
theorem tB_b {e : Nat} (h : e ≤ n) : e ≤ tB n tb e ∧ tB n tb e ≤ n := by
  have := ff_b (fun i => !bl (tb i)) (n - e) e
  unfold tB; omega
theorem tE_b {b : Nat} (h : b ≤ n) : b ≤ tE n tb b ∧ tE n tb b ≤ n ∧ (b < n → b < tE n tb b) := by
  unfold tE
  by_cases q : b < n
  · rw [if_pos q]
    split
    · have := tX_b (tb := tb) (k := knd (tb b)) (i := b + 1) (n := n) (by omega); omega
    · omega
  · rw [if_neg q]; omega
theorem tK_b {b : Nat} : tK n tb b ≤ 4 ∧ (tK n tb b = 0 ↔ n ≤ b) := by
  unfold tK
  have := knd_b (tb b)
  split <;> omega
theorem c_adv_116 (h256 : ∀ i, tb i < 256) (hn : n ≤ 600) {k : Nat} (hk : k ≤ 4) : ∀ m fu i I, i + m = n → m < fu → tpC n tb I → I 5 0 0 5 = nI k → I 5 0 0 7 = nI i →
    wp (f_X5_advance_116 fu I) (fun I' => E5 I I' ∧ I' 5 0 0 5 = nI k ∧ I' 5 0 0 6 = I 5 0 0 6 ∧ I' 5 0 0 7 = nI (if k = 1 ∨ k = 2 then tX n tb k i else i)) := by
  intro m
  induction m with
  | zero =>
    intro fu i I hi hf h5 hk5 h7
    obtain ⟨g, rfl⟩ := Nat.exists_eq_succ_of_ne_zero (by omega : fu ≠ 0)
    have e1 : tX n tb k i = i := ff_end (by omega)
    unfold f_X5_advance_116
    refine wp_pos (by rw [h5.1, h7]; exact nI_le (by omega) (by omega)) (wp_some ⟨E5.rfl, hk5, rfl, ?_⟩)
    rw [h7, e1]; simp
  | succ m ih =>
    intro fu i I hi hf h5 hk5 h7
    obtain ⟨g, rfl⟩ := Nat.exists_eq_succ_of_ne_zero (by omega : fu ≠ 0)
    unfold f_X5_advance_116
    refine wp_neg (by rw [h5.1, h7]; exact nI_ge (by omega) (by omega)) ?_
    have go : k = 1 ∨ k = 2 → wp (f_X5_advance_143 (f_X5_advance_116 g) I) (fun I' => E5 I I' ∧ I' 5 0 0 5 = nI k ∧ I' 5 0 0 6 = I 5 0 0 6 ∧ I' 5 0 0 7 = nI (if k = 1 ∨ k = 2 then tX n tb k i else i)) := by
      intro q
      unfold f_X5_advance_143
      refine wp_gd (by rw [h7]; exact inb_n (by omega)) ?_
      rw [h7, nI_clamp (by omega), h5.2 i (by omega), c_kind (h256 i), Option.bind_some, hk5]
      have st : tX n tb k i = if knd (tb i) ≠ k then i else tX n tb k (i + 1) := by
        unfold tX; rw [ff_step (by omega)]; simp
      have kb := knd_b (tb i)
      by_cases e : knd (tb i) = k
      · refine wp_pos (by rw [e]) (wp_bnd ?_)
        refine wp_mono (ih g (i + 1) _ (by omega) (by omega) (tpC_e h5 (E5.up (by omega))) ?_ ?_) ?_
        · rw [u5, if_neg (by omega), hk5]
        · rw [u5, if_pos rfl]; exact nI_1 i
        · rintro I' ⟨a1, a2, a3, a4⟩
          refine ⟨(E5.up (by omega)).tr a1, a2, a3.trans (by rw [u5, if_neg (by omega)]), ?_⟩
          rw [a4, st, if_neg (by omega : ¬ knd (tb i) ≠ k)]; simp [q]
      · refine wp_neg (by rw [nI_eq (by omega) (by omega)]; exact e) (wp_some ⟨E5.rfl, hk5, rfl, ?_⟩)
        rw [h7, if_pos q, st, if_pos e]
    rw [hk5]
    by_cases k1 : k = 1
    · exact wp_pos (by rw [k1]; rfl) (go (Or.inl k1))
    · refine wp_neg (by rw [n_1, nI_eq (by omega) (by omega)]; exact k1) ?_
      by_cases k2 : k = 2
      · exact wp_pos (by rw [k2]; rfl) (go (Or.inr k2))
      · refine wp_neg (by rw [n_2, nI_eq (by omega) (by omega)]; exact k2) (wp_some ⟨E5.rfl, hk5, rfl, ?_⟩)
        rw [h7, if_neg (by omega)]
theorem c_adv_96 (h256 : ∀ i, tb i < 256) (hn : n ≤ 600) {b : Nat} (hb : b ≤ n) {I : Mem} (h5 : tpC n tb I) (h6 : I 5 0 0 6 = nI b) :
    wp (f_X5_advance_96 I (nI (tK n tb b))) (fun I' => E5 I I' ∧ I' 5 0 0 5 = nI (tK n tb b) ∧ I' 5 0 0 6 = nI b ∧ I' 5 0 0 7 = nI (tE n tb b)) := by
  unfold f_X5_advance_96
  refine wp_bnd (wp_bnd ?_)
  have kb := tK_b (n := n) (tb := tb) (b := b)
  have e6 : upd4 I 5 0 0 5 (nI (tK n tb b)) 5 0 0 6 = nI b := by rw [u5, if_neg (by omega), h6]
  have e3 : upd4 I 5 0 0 5 (nI (tK n tb b)) 5 0 0 3 = nI n := by rw [u5, if_neg (by omega), h5.1]
  have h5' := tpC_e (tpC_e h5 (E5.up (f := 5) (v := nI (tK n tb b)) (by omega))) (E5.up (f := 7) (v := jmin (upd4 I 5 0 0 5 (nI (tK n tb b)) 5 0 0 6 + 1) (upd4 I 5 0 0 5 (nI (tK n tb b)) 5 0 0 3)) (by omega))
  have e7 : jmin (upd4 I 5 0 0 5 (nI (tK n tb b)) 5 0 0 6 + 1) (upd4 I 5 0 0 5 (nI (tK n tb b)) 5 0 0 3) = nI (min (b + 1) n) := by
    rw [e6, e3, nI_1, jmin_n (by omega) (by omega)]
  refine wp_mono (c_adv_116 h256 hn (k := tK n tb b) kb.1 (n - min (b + 1) n) FU (min (b + 1) n) _ (by omega) (by unfold FU; omega) h5' ?_ ?_) ?_
  · rw [u5, if_neg (by omega), u5, if_pos rfl]
  · rw [u5, if_pos rfl, e7]
  · rintro I' ⟨a1, a2, a3, a4⟩
    refine ⟨((E5.up (by omega)).tr (E5.up (by omega))).tr a1, a2, ?_, ?_⟩
    · rw [a3, u5, if_neg (by omega), e6]
    · rw [a4]
      congr 1
      unfold tE tK
      by_cases q : b < n
      · rw [if_pos q, if_pos q, Nat.min_eq_left (by omega)]
      · rw [if_neg q, if_neg q, if_neg (by omega)]; omega
theorem c_adv_16 (h256 : ∀ i, tb i < 256) (hn : n ≤ 600) : ∀ m fu i I, i + m = n → m < fu → tpC n tb I → I 5 0 0 6 = nI i →
    wp (f_X5_advance_16 fu I) (fun I' => E5 I I' ∧ I' 5 0 0 5 = nI (tK n tb (tB n tb i)) ∧ I' 5 0 0 6 = nI (tB n tb i) ∧ I' 5 0 0 7 = nI (tE n tb (tB n tb i))) := by
  intro m
  induction m with
  | zero =>
    intro fu i I hi hf h5 h6
    obtain ⟨g, rfl⟩ := Nat.exists_eq_succ_of_ne_zero (by omega : fu ≠ 0)
    have e1 : tB n tb i = i := ff_end (by omega)
    unfold f_X5_advance_16
    refine wp_pos (by rw [h5.1, h6]; exact nI_le (by omega) (by omega)) ?_
    unfold f_X5_advance_68
    refine wp_pos (by rw [h5.1, h6]; exact nI_le (by omega) (by omega)) ?_
    rw [e1]
    have e0 : tK n tb i = 0 := if_neg (by omega)
    have := c_adv_96 h256 hn (b := i) (by omega) h5 h6
    rw [e0] at this ⊢
    exact this
  | succ m ih =>
    intro fu i I hi hf h5 h6
    obtain ⟨g, rfl⟩ := Nat.exists_eq_succ_of_ne_zero (by omega : fu ≠ 0)
    have st : tB n tb i = if bl (tb i) then tB n tb (i + 1) else i := by
      unfold tB; rw [ff_step (by omega)]
      cases bl (tb i) <;> rfl
    have hup : bl (tb i) = true → wp (f_X5_advance_16 g (upd4 I 5 0 0 6 (nI i + 1))) (fun I' => E5 I I' ∧ I' 5 0 0 5 = nI (tK n tb (tB n tb i)) ∧ I' 5 0 0 6 = nI (tB n tb i) ∧ I' 5 0 0 7 = nI (tE n tb (tB n tb i))) := by
      intro q
      rw [st, if_pos q]
      refine wp_mono (ih g (i + 1) _ (by omega) (by omega) (tpC_e h5 (E5.up (by omega))) ?_) ?_
      · rw [u5, if_pos rfl]; exact nI_1 i
      · rintro I' ⟨a1, a2⟩
        exact ⟨(E5.up (by omega)).tr a1, a2⟩
    unfold f_X5_advance_16
    refine wp_neg (by rw [h5.1, h6]; exact nI_ge (by omega) (by omega)) ?_
    refine wp_gd (by rw [h6]; exact inb_n (by omega)) ?_
    rw [h6, nI_clamp (by omega), h5.2 i (by omega)]
    have b32 : sb (tb i) = 32 ↔ tb i = 32 := sb_eq (y := 32) (h256 i) (by omega)
    have b10 : sb (tb i) = 10 ↔ tb i = 10 := sb_eq (y := 10) (h256 i) (by omega)
    refine wp_ite (fun q => wp_bnd (hup (by unfold bl; rw [b32.mp q]; rfl))) (fun q => ?_)
    refine wp_ite (fun q' => wp_bnd (hup (by unfold bl; rw [b10.mp q']; rfl))) (fun q' => ?_)
    have nb : ¬ bl (tb i) = true := by
      unfold bl; simp; exact ⟨fun z => q (b32.mpr z), fun z => q' (b10.mpr z)⟩
    rw [st, if_neg nb]
    unfold f_X5_advance_68
    refine wp_neg (by rw [h5.1, h6]; exact nI_ge (by omega) (by omega)) ?_
    refine wp_gd (by rw [h6]; exact inb_n (by omega)) ?_
    rw [h6, nI_clamp (by omega), h5.2 i (by omega), c_kind (h256 i), Option.bind_some]
    have := c_adv_96 h256 hn (b := i) (by omega) h5 h6
    rw [show tK n tb i = knd (tb i) from if_pos (by omega)] at this ⊢
    exact this
theorem c_adv (h256 : ∀ i, tb i < 256) (hn : n ≤ 600) {I : Mem} {e : Nat} (he : e ≤ n) (h5 : tpC n tb I) (h0 : I 5 0 0 0 = 0) (h7 : I 5 0 0 7 = nI e) :
    wp (f_X5_advance I) (fun I' => E5 I I' ∧ I' 5 0 0 5 = nI (tK n tb (tB n tb e)) ∧ I' 5 0 0 6 = nI (tB n tb e) ∧ I' 5 0 0 7 = nI (tE n tb (tB n tb e))) := by
  unfold f_X5_advance
  refine wp_pos h0 (wp_bnd ?_)
  refine wp_mono (c_adv_16 h256 hn (n - e) FU e _ (by omega) (by unfold FU; omega) (tpC_e h5 (E5.up (by omega))) ?_) ?_
  · rw [u5, if_pos rfl, h7]
  · rintro I' ⟨a1, a2⟩
    exact ⟨(E5.up (by omega)).tr a1, a2⟩
end
