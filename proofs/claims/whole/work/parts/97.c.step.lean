/-! the next token, reference -/
section
variable {n : Nat} {tb : Nat → Nat}
theorem r_byte {I : Mem} (hn : n ≤ 600) (h : tpR n tb I) {i : Nat} (hi : i ≤ n) : f_X8_byteAt I (nI i) = some (if i < n then nI (tb i) else -1) := by
  unfold f_X8_byteAt
  by_cases q : i < n
  · rw [if_neg (by rw [h.1]; exact nI_ge q (by omega)), gd_t (inb_n (by omega)), nI_clamp (by omega), h.2 i q, if_pos q]
  · rw [if_pos (by rw [h.1]; exact nI_le (by omega) (by omega)), if_neg q]
theorem r_step_76 (h256 : ∀ i, tb i < 256) (hn : n ≤ 600) : ∀ m fu i I, i + m = n → m < fu → tpR n tb I → I 8 0 0 15 = nI i →
    wp (f_X8_stepOn_76 fu I) (fun I' => E8 I I' ∧ I' 8 0 0 17 = 1 ∧ I' 8 0 0 19 = I 8 0 0 19 ∧ I' 8 0 0 15 = nI (tX n tb 1 i) ∧ I' 8 0 0 20 = nI (tX n tb 1 i)) := by
  intro m
  induction m with
  | zero =>
    intro fu i I hi hf h8 h15
    obtain ⟨g, rfl⟩ := Nat.exists_eq_succ_of_ne_zero (by omega : fu ≠ 0)
    have e1 : tX n tb 1 i = i := ff_end (by omega)
    unfold f_X8_stepOn_76
    rw [h15, r_byte hn h8 (by omega), if_neg (by omega), Option.bind_some, r_letm, Option.bind_some]
    refine wp_pos rfl (wp_bnd (wp_bnd (wp_some ⟨(E8.up (by unfold fS; omega)).tr (E8.up (by unfold fS; omega)), ?_, ?_, ?_, ?_⟩)))
    · rw [u5, if_neg (by omega), u5, if_pos rfl]
    · rw [u5, if_neg (by omega), u5, if_neg (by omega)]
    · rw [u5, if_neg (by omega), u5, if_neg (by omega), h15, e1]
    · rw [u5, if_pos rfl, u5, if_neg (by omega), h15, e1]
  | succ m ih =>
    intro fu i I hi hf h8 h15
    obtain ⟨g, rfl⟩ := Nat.exists_eq_succ_of_ne_zero (by omega : fu ≠ 0)
    have st : tX n tb 1 i = if knd (tb i) ≠ 1 then i else tX n tb 1 (i + 1) := by
      unfold tX; rw [ff_step (by omega)]; simp
    unfold f_X8_stepOn_76
    rw [h15, r_byte hn h8 (by omega), if_pos (by omega), Option.bind_some, r_let (h256 i), Option.bind_some]
    by_cases e : knd (tb i) = 1
    · rw [decide_eq_true e]
      refine wp_neg (by decide) (wp_bnd ?_)
      refine wp_mono (ih g (i + 1) _ (by omega) (by omega) (tpR_e h8 (E8.up (by unfold fS; omega))) ?_) ?_
      · rw [u5, if_pos rfl]; exact nI_1 i
      · rintro I' ⟨a1, a2, a3, a4, a5⟩
        refine ⟨(E8.up (by unfold fS; omega)).tr a1, a2, a3.trans (by rw [u5, if_neg (by omega)]), ?_, ?_⟩
        · rw [a4, st, if_neg (by omega)]
        · rw [a5, st, if_neg (by omega)]
    · rw [decide_eq_false e]
      refine wp_pos rfl (wp_bnd (wp_bnd (wp_some ⟨(E8.up (by unfold fS; omega)).tr (E8.up (by unfold fS; omega)), ?_, ?_, ?_, ?_⟩)))
      · rw [u5, if_neg (by omega), u5, if_pos rfl]
      · rw [u5, if_neg (by omega), u5, if_neg (by omega)]
      · rw [u5, if_neg (by omega), u5, if_neg (by omega), h15, st, if_pos e]
      · rw [u5, if_pos rfl, u5, if_neg (by omega), h15, st, if_pos e]
theorem r_dstep {v x : Nat} (hv : v ≤ 100000) (hx : 48 ≤ x ∧ x ≤ 57) : jmin 100000 (((10 : Int32) * nI v + nI x) - 48) = nI (min 100000 (10 * v + (x - 48))) := by
  have e : ((10 : Int32) * nI v + nI x) - 48 = nI (10 * v + (x - 48)) := by
    rw [show (10 : Int32) = nI 10 from rfl, pk_mul, nI_add, show (48 : Int32) = nI 48 from rfl, pk_sub (by omega)]
    congr 1; omega
  rw [e, n_1e5, jmin_n (by omega) (by omega)]
theorem dv_b {b m : Nat} : dv tb b m ≤ 100000 := by
  cases m with
  | zero => exact Nat.zero_le _
  | succ m => exact Nat.min_le_left _ _
theorem r_step_123 (h256 : ∀ i, tb i < 256) (hn : n ≤ 600) {b : Nat} : ∀ m fu i I, i + m = n → m < fu → b ≤ i → tpR n tb I → I 8 0 0 15 = nI i → I 8 0 0 18 = nI (dv tb b (i - b)) →
    wp (f_X8_stepOn_123 fu I) (fun I' => E8 I I' ∧ I' 8 0 0 17 = 2 ∧ I' 8 0 0 19 = I 8 0 0 19 ∧ I' 8 0 0 15 = nI (tX n tb 2 i) ∧ I' 8 0 0 20 = nI (tX n tb 2 i) ∧ I' 8 0 0 18 = nI (dv tb b (tX n tb 2 i - b))) := by
  intro m
  induction m with
  | zero =>
    intro fu i I hi hf hb h8 h15 h18
    obtain ⟨g, rfl⟩ := Nat.exists_eq_succ_of_ne_zero (by omega : fu ≠ 0)
    have e1 : tX n tb 2 i = i := ff_end (by omega)
    unfold f_X8_stepOn_123
    rw [h15, r_byte hn h8 (by omega), if_neg (by omega), Option.bind_some, r_digm, Option.bind_some]
    refine wp_pos rfl (wp_bnd (wp_bnd (wp_some ⟨(E8.up (by unfold fS; omega)).tr (E8.up (by unfold fS; omega)), ?_, ?_, ?_, ?_, ?_⟩)))
    · rw [u5, if_neg (by omega), u5, if_pos rfl]
    · rw [u5, if_neg (by omega), u5, if_neg (by omega)]
    · rw [u5, if_neg (by omega), u5, if_neg (by omega), h15, e1]
    · rw [u5, if_pos rfl, u5, if_neg (by omega), h15, e1]
    · rw [u5, if_neg (by omega), u5, if_neg (by omega), h18, e1]
  | succ m ih =>
    intro fu i I hi hf hb h8 h15 h18
    obtain ⟨g, rfl⟩ := Nat.exists_eq_succ_of_ne_zero (by omega : fu ≠ 0)
    have st : tX n tb 2 i = if knd (tb i) ≠ 2 then i else tX n tb 2 (i + 1) := by
      unfold tX; rw [ff_step (by omega)]; simp
    unfold f_X8_stepOn_123
    rw [h15, r_byte hn h8 (by omega), if_pos (by omega), Option.bind_some, r_dig (h256 i), Option.bind_some]
    by_cases e : knd (tb i) = 2
    · rw [decide_eq_true e]
      refine wp_neg (by decide) ?_
      rw [Option.bind_some]
      refine wp_bnd (wp_bnd ?_)
      have hd := knd_dig e
      have v18 : jmin 100000 (((10 : Int32) * I 8 0 0 18 + nI (tb i)) - 48) = nI (dv tb b (i + 1 - b)) := by
        rw [h18, r_dstep dv_b hd, show i + 1 - b = (i - b) + 1 by omega, dv, show b + (i - b) = i by omega]
      have E := (E8.up (I := I) (f := 18) (v := jmin 100000 (((10 : Int32) * I 8 0 0 18 + nI (tb i)) - 48)) (by unfold fS; omega)).tr (E8.up (f := 15) (v := upd4 I 8 0 0 18 (jmin 100000 (((10 : Int32) * I 8 0 0 18 + nI (tb i)) - 48)) 8 0 0 15 + 1) (by unfold fS; omega))
      refine wp_mono (ih g (i + 1) _ (by omega) (by omega) (by omega) (tpR_e h8 E) ?_ ?_) ?_
      · rw [u5, if_pos rfl, u5, if_neg (by omega), h15]; exact nI_1 i
      · rw [u5, if_neg (by omega), u5, if_pos rfl, v18]
      · rintro I' ⟨a1, a2, a3, a4, a5, a6⟩
        refine ⟨E.tr a1, a2, a3.trans (by rw [u5, if_neg (by omega), u5, if_neg (by omega)]), ?_, ?_, ?_⟩
        · rw [a4, st, if_neg (by omega)]
        · rw [a5, st, if_neg (by omega)]
        · rw [a6, st, if_neg (by omega)]
    · rw [decide_eq_false e]
      refine wp_pos rfl (wp_bnd (wp_bnd (wp_some ⟨(E8.up (by unfold fS; omega)).tr (E8.up (by unfold fS; omega)), ?_, ?_, ?_, ?_, ?_⟩)))
      · rw [u5, if_neg (by omega), u5, if_pos rfl]
      · rw [u5, if_neg (by omega), u5, if_neg (by omega)]
      · rw [u5, if_neg (by omega), u5, if_neg (by omega), h15, st, if_pos e]
      · rw [u5, if_pos rfl, u5, if_neg (by omega), h15, st, if_pos e]
      · rw [u5, if_neg (by omega), u5, if_neg (by omega), h18, st, if_pos e]
/-- what stepping on gives at a place that is not blank -/
def rTok (n : Nat) (tb : Nat → Nat) (I I' : Mem) (b : Nat) : Prop :=
  E8 I I' ∧ I' 8 0 0 17 = nI (tK n tb b) ∧ I' 8 0 0 19 = nI b ∧ I' 8 0 0 15 = nI (tE n tb b) ∧ I' 8 0 0 20 = nI (tE n tb b) ∧ (tK n tb b = 2 → I' 8 0 0 18 = nI (dv tb b (tE n tb b - b)))
theorem r_step_0 (h256 : ∀ i, tb i < 256) (hn : n ≤ 600) : ∀ m fu i I, i + m = n → m < fu → tpR n tb I → I 8 0 0 15 = nI i →
    wp (f_X8_stepOn_0 fu I) (fun I' => rTok n tb I I' (tB n tb i)) := by
  intro m
  induction m with
  | zero =>
    intro fu i I hi hf h8 h15
    obtain ⟨g, rfl⟩ := Nat.exists_eq_succ_of_ne_zero (by omega : fu ≠ 0)
    have e1 : tB n tb i = i := ff_end (by omega)
    have e0 : tK n tb i = 0 := if_neg (by omega)
    have e2 : tE n tb i = i := if_neg (by omega)
    unfold f_X8_stepOn_0
    rw [h15, r_byte hn h8 (by omega), if_neg (by omega), Option.bind_some]
    refine wp_neg (by decide) ?_
    rw [Option.bind_some]
    refine wp_neg (by decide) (wp_bnd ?_)
    have h8' := tpR_e h8 (E8.up (I := I) (f := 19) (v := nI i) (by unfold fS; omega))
    rw [show upd4 I 8 0 0 19 (nI i) 8 0 0 15 = nI i by rw [u5, if_neg (by omega), h15], r_byte hn h8' (by omega), if_neg (by omega), Option.bind_some]
    refine wp_pos rfl (wp_bnd (wp_bnd (wp_some ⟨((E8.up (by unfold fS; omega)).tr (E8.up (by unfold fS; omega))).tr (E8.up (by unfold fS; omega)), ?_, ?_, ?_, ?_, ?_⟩)))
    · rw [u5, if_neg (by omega), u5, if_pos rfl, e1, e0]; rfl
    · rw [u5, if_neg (by omega), u5, if_neg (by omega), u5, if_pos rfl, e1]
    · rw [u5, if_neg (by omega), u5, if_neg (by omega), u5, if_neg (by omega), h15, e1, e2]
    · rw [u5, if_pos rfl, u5, if_neg (by omega), u5, if_neg (by omega), h15, e1, e2]
    · intro q; rw [e1, e0] at q; omega
  | succ m ih =>
    intro fu i I hi hf h8 h15
    obtain ⟨g, rfl⟩ := Nat.exists_eq_succ_of_ne_zero (by omega : fu ≠ 0)
    have st : tB n tb i = if bl (tb i) then tB n tb (i + 1) else i := by
      unfold tB; rw [ff_step (by omega)]
      cases bl (tb i) <;> rfl
    have hup : bl (tb i) = true → wp (f_X8_stepOn_0 g (upd4 I 8 0 0 15 (nI i + 1))) (fun I' => rTok n tb I I' (tB n tb i)) := by
      intro q
      rw [st, if_pos q]
      refine wp_mono (ih g (i + 1) _ (by omega) (by omega) (tpR_e h8 (E8.up (by unfold fS; omega))) ?_) ?_
      · rw [u5, if_pos rfl]; exact nI_1 i
      · rintro I' ⟨a1, a2⟩
        exact ⟨(E8.up (by unfold fS; omega)).tr a1, a2⟩
    have hx := h256 i
    unfold f_X8_stepOn_0
    rw [h15, r_byte hn h8 (by omega), if_pos (by omega), Option.bind_some]
    have b32 : nI (tb i) = 32 ↔ tb i = 32 := nI_eq (b := 32) (by omega) (by omega)
    have b10 : nI (tb i) = 10 ↔ tb i = 10 := nI_eq (b := 10) (by omega) (by omega)
    refine wp_ite (fun q => wp_bnd (hup (by unfold bl; rw [b32.mp q]; rfl))) (fun q => ?_)
    rw [Option.bind_some]
    refine wp_ite (fun q' => wp_bnd (hup (by unfold bl; rw [b10.mp q']; rfl))) (fun q' => wp_bnd ?_)
    have nb : ¬ bl (tb i) = true := by
      unfold bl; simp; exact ⟨fun z => q (b32.mpr z), fun z => q' (b10.mpr z)⟩
    rw [st, if_neg nb]
    have E19 : E8 I (upd4 I 8 0 0 19 (nI i)) := E8.up (by unfold fS; omega)
    have h8' := tpR_e h8 E19
    have k1 : tK n tb i = knd (tb i) := if_pos (by omega)
    have h19 : upd4 I 8 0 0 19 (nI i) 8 0 0 19 = nI i := by rw [u5, if_pos rfl]
    rw [show upd4 I 8 0 0 19 (nI i) 8 0 0 15 = nI i by rw [u5, if_neg (by omega), h15], r_byte hn h8' (by omega), if_pos (by omega), Option.bind_some]
    refine wp_neg (fun z => nI_ni (by omega) z) ?_
    rw [r_let hx, Option.bind_some]
    by_cases e : knd (tb i) = 1
    · rw [decide_eq_true e]
      refine wp_neg (by decide) ?_
      have st1 : tX n tb 1 i = tX n tb 1 (i + 1) := by
        unfold tX; rw [ff_step (by omega)]; simp [e]
      have eE : tE n tb i = tX n tb 1 i := by
        unfold tE; rw [if_pos (by omega), if_pos (Or.inl e), e, st1]
      refine wp_mono (r_step_76 h256 hn (n - i) FU i _ (by omega) (by unfold FU; omega) h8' (by rw [u5, if_neg (by omega), h15])) ?_
      rintro I' ⟨a1, a2, a3, a4, a5⟩
      exact ⟨E19.tr a1, by rw [a2, k1, e]; rfl, a3.trans h19, by rw [a4, eE], by rw [a5, eE], fun z => by rw [k1, e] at z; omega⟩
    · rw [decide_eq_false e]
      refine wp_pos rfl ?_
      rw [r_dig hx, Option.bind_some]
      by_cases e2 : knd (tb i) = 2
      · rw [decide_eq_true e2]
        refine wp_neg (by decide) (wp_bnd ?_)
        have st1 : tX n tb 2 i = tX n tb 2 (i + 1) := by
          unfold tX; rw [ff_step (by omega)]; simp [e2]
        have eE : tE n tb i = tX n tb 2 i := by
          unfold tE; rw [if_pos (by omega), if_pos (Or.inr e2), e2, st1]
        have E18 : E8 (upd4 I 8 0 0 19 (nI i)) (upd4 (upd4 I 8 0 0 19 (nI i)) 8 0 0 18 0) := E8.up (by unfold fS; omega)
        refine wp_mono (r_step_123 h256 hn (b := i) (n - i) FU i _ (by omega) (by unfold FU; omega) (Nat.le_refl i) (tpR_e h8' E18) (by rw [u5, if_neg (by omega), u5, if_neg (by omega), h15]) (by rw [u5, if_pos rfl, Nat.sub_self]; rfl)) ?_
        rintro I' ⟨a1, a2, a3, a4, a5, a6⟩
        exact ⟨(E19.tr E18).tr a1, by rw [a2, k1, e2]; rfl, a3.trans (by rw [u5, if_neg (by omega), h19]), by rw [a4, eE], by rw [a5, eE], fun _ => by rw [a6, eE]⟩
      · rw [decide_eq_false e2]
        refine wp_pos rfl (wp_bnd ?_)
        have eE : tE n tb i = i + 1 := by
          unfold tE; rw [if_pos (by omega), if_neg (by omega)]
        have E15 : E8 (upd4 I 8 0 0 19 (nI i)) (upd4 (upd4 I 8 0 0 19 (nI i)) 8 0 0 15 (nI i + 1)) := E8.up (by unfold fS; omega)
        rw [r_mrk hx, Option.bind_some]
        have kb := knd_b (tb i)
        by_cases e3 : knd (tb i) = 3
        · rw [decide_eq_true e3]
          refine wp_neg (by decide) (wp_bnd (wp_bnd (wp_some ⟨(E19.tr E15).tr ((E8.up (by unfold fS; omega)).tr (E8.up (by unfold fS; omega))), ?_, ?_, ?_, ?_, ?_⟩)))
          · rw [u5, if_neg (by omega), u5, if_pos rfl, k1, e3]; rfl
          · rw [u5, if_neg (by omega), u5, if_neg (by omega), u5, if_neg (by omega), h19]
          · rw [u5, if_neg (by omega), u5, if_neg (by omega), u5, if_pos rfl, eE]; exact nI_1 i
          · rw [u5, if_pos rfl, u5, if_neg (by omega), u5, if_pos rfl, eE]; exact nI_1 i
          · intro z; rw [k1] at z; omega
        · rw [decide_eq_false e3]
          refine wp_pos rfl (wp_bnd (wp_bnd (wp_some ⟨(E19.tr E15).tr ((E8.up (by unfold fS; omega)).tr (E8.up (by unfold fS; omega))), ?_, ?_, ?_, ?_, ?_⟩)))
          · rw [u5, if_neg (by omega), u5, if_pos rfl, k1, show knd (tb i) = 4 by omega]; rfl
          · rw [u5, if_neg (by omega), u5, if_neg (by omega), u5, if_neg (by omega), h19]
          · rw [u5, if_neg (by omega), u5, if_neg (by omega), u5, if_pos rfl, eE]; exact nI_1 i
          · rw [u5, if_pos rfl, u5, if_neg (by omega), u5, if_pos rfl, eE]; exact nI_1 i
          · intro z; rw [k1] at z; omega
theorem r_step (h256 : ∀ i, tb i < 256) (hn : n ≤ 600) {I : Mem} {e : Nat} (he : e ≤ n) (h8 : tpR n tb I) (h15 : I 8 0 0 15 = nI e) : wp (f_X8_stepOn I) (fun I' => rTok n tb I I' (tB n tb e)) :=
  r_step_0 h256 hn (n - e) FU e I (by omega) (by unfold FU; omega) h8 h15
end
