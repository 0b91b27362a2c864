/-! pairs of calls: plain questions -/
theorem ifw {α : Type} {v : Int32} {n : Nat} (hn : n + 1 < 2 ^ 31) {x y : α} : (if v < 0 then x else (if v ≤ nI n then y else x)) = if inR v (n + 1) = true then y else x := by
  have k := (inS (v := v) (n := n)).resolve_right (by omega)
  rw [← k]
  by_cases e : v < 0
  · simp [e, (fa_of_lt e).2.1]
  · have := fa_of_nlt e
    by_cases e2 : v ≤ nI n
    · simp [e, e2, this]
    · simp [e, e2]
theorem wp_thb {α β : Type} {x : α} {k : α → Option (β ⊕ Nat)} {b : Bool} {o : Option (α ⊕ Nat)} {Q : β ⊕ Nat → Prop} (ho : o = some (if b = true then Sum.inl x else Sum.inr 1)) (ht : b = true → wp (k x) Q) (hf : b = false → Q (Sum.inr 1)) : wp (thb o k) Q := by
  unfold thb
  rw [ho, Option.bind_some]
  cases b
  · exact wp_some (hf rfl)
  · exact ht rfl
/-- what a question's two sides owe -/
def Qr (I : Mem) (P : PMem) (l : Nat) (a : Abs) (fr : Mem → Option (Int32 × Mem)) (y : (Int32 × Mem × PMem) ⊕ Nat) : Prop :=
  (∃ v I1 P1, y = Sum.inl (v, I1, P1) ∧ GC I1 P1 l a ∧ Kc I I1 ∧ (GR I1 a → wp (fr I1) (fun w => w.1 = v ∧ w.2 8 0 0 2 = 0 ∧ GR w.2 a ∧ Kr I1 w.2))) ∨
  (y = Sum.inr 1 ∧ wp (fr I) (fun w => w.2 8 0 0 2 = 1 ∧ GR w.2 a ∧ Kr I w.2))
theorem L_q {fx : Option ((Int32 × Mem × PMem) ⊕ Nat)} {I : Mem} {P : PMem} {O : Nat → Int64} {D : Bool} {n l : Nat} {a : Abs} {fr : Mem → Option (Int32 × Mem)} (hA : AOK a) (hC : GC I P l a) (hR : GR I a) (h : wp fx (Qr I P l a fr)) :
    Pr (fx.bind fun y => match y with
  | Sum.inl q => some ((0 : Int32), q.2.1, q.2.2, vp_updL O 0 q.1.toInt64, D, n)
  | Sum.inr e => if e = 1 then some ((1 : Int32), I, P, O, D, n + 1) else none) fr n := by
  obtain ⟨y, e, h⟩ := h
  rw [e, Option.bind_some]
  rcases h with ⟨v, I1, P1, rfl, hC1, hk, hr⟩ | ⟨rfl, hr⟩
  · exact pr_ok rfl uL0 (by omega) hA hC1 (hr (GR_k hR hk))
  · exact pr_no rfl (by decide) (Nat.le_refl _) hA hC hr
theorem L_q0 {fx : Option (Int32 ⊕ Nat)} {I : Mem} {P : PMem} {O : Nat → Int64} {D : Bool} {n l : Nat} {a : Abs} {fr : Mem → Option (Int32 × Mem)} (hA : AOK a) (hC : GC I P l a)
    (h : wp fx (fun y => (∃ v, y = Sum.inl v ∧ wp (fr I) (fun w => w.1 = v ∧ w.2 8 0 0 2 = 0 ∧ GR w.2 a ∧ Kr I w.2)) ∨ (y = Sum.inr 1 ∧ wp (fr I) (fun w => w.2 8 0 0 2 = 1 ∧ GR w.2 a ∧ Kr I w.2)))) :
    Pr (fx.bind fun y => match y with
  | Sum.inl q => some ((0 : Int32), I, P, vp_updL O 0 q.toInt64, D, n)
  | Sum.inr e => if e = 1 then some ((1 : Int32), I, P, O, D, n + 1) else none) fr n := by
  obtain ⟨y, e, h⟩ := h
  rw [e, Option.bind_some]
  rcases h with ⟨v, rfl, hr⟩ | ⟨rfl, hr⟩
  · exact pr_ok rfl uL0 (by omega) hA hC hr
  · exact pr_no rfl (by decide) (Nat.le_refl _) hA hC hr
theorem r_fail1 {I : Mem} {a : Abs} (h : GR I a) {x : Int32} (y : Int32) : wp ((f_X8_fail (upd4 I 8 0 0 2 x) y).bind fun y1 => some (y1.1, y1.2)) (fun w => w.2 8 0 0 2 = y ∧ GR w.2 a ∧ Kr I w.2) := by
  refine wp_bind (r_fail h x y) ?_
  rintro ⟨u, J⟩ ⟨_, e1, e2, e3⟩
  exact wp_some ⟨e1, e2, e3⟩
theorem nv_or {I : Mem} {x : Int32} (h : x = -1 ∨ x.toInt < 100000) : f_X8_orNone I (nv x) = some x := by
  unfold f_X8_orNone
  by_cases e : x = -1
  · rw [e]; rfl
  · have e2 : nv x = x := if_neg e
    rw [e2, if_pos]
    rw [n_1e5, fa_lt, nI_toInt (by omega)]
    exact h.resolve_left e
theorem code0 (I : Mem) : upd4 I 8 0 0 2 0 8 0 0 2 = 0 := u_at
section
variable {I : Mem} {P : PMem} {l : Nat} {a : Abs} {O : Nat → Int64} {D : Bool} {n : Nat}
theorem code_c {I : Mem} {x : Int32} {c : Nat} (h : c ≠ 8) : upd4 I 8 0 0 2 x c = I c := u_c h
theorem code_f {I : Mem} {x : Int32} {f : Nat} (h : f ≠ 2) : upd4 I 8 0 0 2 x 8 0 0 f = I 8 0 0 f := by rw [u_if, if_neg (fun q => h q.2)]
theorem p_far (h : G I P) (v1 v2 v3 : Int32) : Pr (f_L_far I P O D n v1 v2 v3) (fun I => f_X8_far I v1 v2 v3) n := by
  obtain ⟨l, a, hA, hC, hR⟩ := h
  have hT := hA.1.1
  obtain ⟨hR0, hK0⟩ := r_code hR 0
  refine L_q0 hA hC ?_
  unfold f_X7_far
  have no : inR v1 (lT (yL a)) = false ∨ inR v2 (lT (yL a)) = false ∨ inR v3 2 = false → wp (f_X8_far I v1 v2 v3) (fun w => w.2 8 0 0 2 = 1 ∧ GR w.2 a ∧ Kr I w.2) := by
    intro q
    unfold f_X8_far
    refine wp_bnd ?_
    refine wp_bindE _ (r_town hA hR0 v1) ?_
    refine wp_ite (fun _ => r_fail1 hR 1) (fun q1 => wp_bindE _ (r_town hA hR0 v2) (wp_ite (fun _ => r_fail1 hR 1) (fun q2 => ?_)))
    rw [n_1, ifw (by omega)]
    refine wp_neg ?_ (r_fail1 hR 1)
    rcases q with q | q | q
    · exact absurd (bI_0.mpr q) q1
    · exact absurd (bI_0.mpr q) q2
    · rw [q]; decide
  refine wp_thb (q_town hA hC v1) (fun b1 => wp_thb (q_town hA hC v2) (fun b2 => wp_thb (q_what I v3 (n := 1) (by omega)) (fun b3 => ?_) (fun b3 => Or.inr ⟨rfl, no (by simp [b3])⟩)) (fun b2 => Or.inr ⟨rfl, no (by simp [b2])⟩)) (fun b1 => Or.inr ⟨rfl, no (by simp [b1])⟩)
  obtain ⟨t1, ht1, e1⟩ := inR_t (by omega) b1
  obtain ⟨t2, ht2, e2⟩ := inR_t (by omega) b2
  have hC0 := hC
  obtain ⟨⟨p1, p2, p3⟩, c1, _⟩ := hC
  obtain ⟨d1, d2⟩ := c1.2.2.2.2.2.2.2.1 t1 t2 ht1 ht2
  have hN : rN (upd4 I 8 0 0 2 0) (lT (yL a)) (lrd (yL a)) (lgg (yL a)) (lnw (yL a)) := ⟨hT, hR0.1.2.2.2.2.2.2.2.2.2.2.2.1, hR0.1.2.2.2.2.2.2.2.2.2.2.1, hA.1.2.2.2.2.2.2.2.2⟩
  have hw := hA.1.2.2.2.2.2.2.2.2 t1 t2 ht1 ht2
  have ref : ∀ v, v = (if v3 = 0 then lrd (yL a) t1 t2 else lnw (yL a) t1 t2) → wp (f_X8_far I v1 v2 v3) (fun w => w.1 = v ∧ w.2 8 0 0 2 = 0 ∧ GR w.2 a ∧ Kr I w.2) := by
    intro v hv
    unfold f_X8_far
    refine wp_bnd ?_
    refine wp_bindE _ (r_town hA hR0 v1) ?_
    rw [b1]
    refine wp_neg (by decide) (wp_bindE _ (r_town hA hR0 v2) ?_)
    rw [b2]
    refine wp_neg (by decide) ?_
    rw [n_1, ifw (by omega)]
    refine wp_pos b3 ?_
    refine wp_ite (fun q => ?_) (fun q => ?_)
    · unfold f_X8_couple f_X8_far_59
      rw [e1, e2, Option.bind_some, n_9, idx_n]
      refine wp_gd (inb_n (by omega)) ?_
      rw [nI_clamp (by omega), hR0.1.2.2.2.2.2.2.2.2.2.2.1 t1 t2 ht1 ht2]
      refine wp_bindE _ (nv_or ?_) (wp_some ⟨by rw [hv, if_pos q], code0 I, hR0, hK0⟩)
      rcases hw with hw | hw
      · exact Or.inl hw.1
      · exact Or.inr (by omega)
    · rw [e1, e2]
      refine wp_bindE _ (r_newsDays hN ht1 ht2) ?_
      unfold f_X8_far_59
      refine wp_bindE _ (nv_or ?_) (wp_some ⟨by rw [hv, if_neg q], code0 I, hR0, hK0⟩)
      rcases hw with hw | hw
      · exact Or.inl hw.2
      · exact Or.inr (by omega)
  rw [p1]
  refine wp_ite (fun q => ?_) (fun q => ?_)
  · refine wp_gd (dlt p2) (wp_gd (by rw [e1]; exact inb_n (by omega)) (wp_gd (by rw [e2]; exact inb_n (by omega)) (wp_some (Or.inl ⟨_, rfl, ref _ ?_⟩))))
    rw [e1, e2, nI_clamp (by omega), nI_clamp (by omega), d1, if_pos q]
  · refine wp_gd (dlt p2) (wp_gd (by rw [e1]; exact inb_n (by omega)) (wp_gd (by rw [e2]; exact inb_n (by omega)) (wp_some (Or.inl ⟨_, rfl, ref _ ?_⟩))))
    rw [e1, e2, nI_clamp (by omega), nI_clamp (by omega), d2, if_neg q]
theorem p_proof (h : G I P) (v1 v2 : Int32) : Pr (f_L_proof I P O D n v1 v2) (fun I => f_X8_proof I v1 v2) n := by
  obtain ⟨l, a, hA, hC, hR⟩ := h
  have hT := hA.1.1
  have hC6 := hA.1.2.2.1
  obtain ⟨hR0, hK0⟩ := r_code hR 0
  refine L_q0 hA hC ?_
  unfold f_X7_proof
  have no : inR v1 (lC (yL a)) = false ∨ inR v2 (lT (yL a)) = false → wp (f_X8_proof I v1 v2) (fun w => w.2 8 0 0 2 = 1 ∧ GR w.2 a ∧ Kr I w.2) := by
    intro q
    unfold f_X8_proof
    refine wp_bnd ?_
    refine wp_bindE _ (r_case hA hR0 v1) ?_
    refine wp_ite (fun _ => r_fail1 hR 1) (fun q1 => wp_bindE _ (r_town hA hR0 v2) (wp_ite (fun _ => r_fail1 hR 1) (fun q2 => ?_)))
    rcases q with q | q
    · exact absurd (bI_0.mpr q) q1
    · exact absurd (bI_0.mpr q) q2
  refine wp_thb (q_case hA hC v1) (fun b1 => wp_thb (q_town hA hC v2) (fun b2 => ?_) (fun b2 => Or.inr ⟨rfl, no (by simp [b2])⟩)) (fun b1 => Or.inr ⟨rfl, no (by simp [b1])⟩)
  obtain ⟨t1, ht1, e1⟩ := inR_t (by omega) b1
  obtain ⟨t2, ht2, e2⟩ := inR_t (by omega) b2
  obtain ⟨⟨p1, p2, p3⟩, c1, _⟩ := hC
  rw [p1]
  refine wp_gd (dlt p2) (wp_gd (by rw [e1]; exact inb_n (by omega)) (wp_gd (by rw [e2]; exact inb_n (by omega)) (wp_some (Or.inl ⟨_, rfl, ?_⟩))))
  rw [e1, e2, nI_clamp (by omega), nI_clamp (by omega), c1.2.2.2.1 t1 ht1 t2 (by omega)]
  unfold f_X8_proof
  refine wp_bnd ?_
  refine wp_bindE _ (r_case hA hR0 _) ?_
  rw [e1] at b1
  rw [b1]
  refine wp_neg (by decide) (wp_bindE _ (r_town hA hR0 _) ?_)
  rw [e2] at b2
  rw [b2, n_9, idx_n]
  refine wp_neg (by decide) (wp_gd (inb_n (by omega)) (wp_some ⟨?_, code0 I, hR0, hK0⟩))
  show upd4 I 8 0 0 2 0 57 0 0 _ = _
  rw [nI_clamp (by omega)]
  exact hR0.1.2.2.2.2.2.2.1 t1 ht1 t2 (by omega)
end
