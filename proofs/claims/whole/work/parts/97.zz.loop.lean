/-! the law's loop -/
theorem law_r {α : Type} {fc : Option (Int32 × Mem × PMem × (Nat → Int64) × Bool × Nat)} {fr : Mem → Option (Int32 × Mem)} {n : Nat} {K : Mem → PMem → (Nat → Int64) → Bool → Nat → Option α} {z : Mem → PMem → (Nat → Int64) → Bool → Nat → Option α} {Q : α → Prop} (hp : Pr fc fr n) (hk : ∀ I P O D n', G I P → n' ≤ n + 1 → wp (K I P O D n') Q) :
    wp (fc.bind fun y3 => (fr y3.2.1).bind fun y4 => (f_X8_thrown y4.2).bind fun y5 => if y5 = y3.1 then (if y3.1 = 0 then (if (lg_cmp (y3.2.2.2.1 0) y4.1.toInt64) = 0 then K y4.2 y3.2.2.1 y3.2.2.2.1 y3.2.2.2.2.1 y3.2.2.2.2.2 else z y4.2 y3.2.2.1 y3.2.2.2.1 y3.2.2.2.2.1 y3.2.2.2.2.2) else K y4.2 y3.2.2.1 y3.2.2.2.1 y3.2.2.2.2.1 y3.2.2.2.2.2) else z y4.2 y3.2.2.1 y3.2.2.2.1 y3.2.2.2.2.1 y3.2.2.2.2.2) Q := by
  refine wp_bind hp (fun y3 h => wp_bind h ?_)
  rintro y4 ⟨h1, h2, h3, h4⟩
  have ht : f_X8_thrown y4.2 = some (y4.2 8 0 0 2) := rfl
  rw [ht, Option.bind_some]
  refine wp_pos h1 (wp_ite (fun q => wp_pos ?_ (hk _ _ _ _ _ h3 h4)) (fun _ => hk _ _ _ _ _ h3 h4))
  rw [lg_cmp_eq]; exact h2 q
theorem law_q {α : Type} {fc : Option (Int32 × Mem)} {fr : Mem → Option (Int32 × Mem)} {P : PMem} {K z : Mem → Option α} {Q : α → Prop} (hp : Pq fc fr P) (hk : ∀ I, G I P → wp (K I) Q) :
    wp (fc.bind fun y => (fr y.2).bind fun w => if y.1 = w.1 then K w.2 else z w.2) Q := by
  refine wp_bind hp (fun y h => wp_bind h ?_)
  rintro w ⟨h1, h2⟩
  exact wp_pos h1 (hk _ h2)
theorem law_f {α : Type} {I : Mem} {fc : Option Int32} {fr : Option (Int32 × Mem)} {P : PMem} {K z : Mem → Option α} {Q : α → Prop} (hp : wp fc (fun v => wp fr (fun w => v = w.1 ∧ G w.2 P))) (hk : ∀ I, G I P → wp (K I) Q) :
    wp (fc.bind fun y => fr.bind fun w => if y = w.1 then K w.2 else z w.2) Q := by
  refine wp_bind hp (fun y h => wp_bind h ?_)
  rintro w ⟨h1, h2⟩
  exact wp_pos h1 (hk _ h2)
theorem law_im {α : Type} {fc : Option Mem} {fr : Mem → Option Mem} {P : PMem} {K : Mem → Option α} {Q : α → Prop} (hp : wp fc (fun y => wp (fr y) (fun w => G w P))) (hk : ∀ I, G I P → wp (K I) Q) :
    wp (fc.bind fun y => (fr y).bind fun w => K w) Q := wp_bind hp (fun _ h => wp_bind h (fun w h2 => hk w h2))
theorem law_inn {α : Type} {fc : Option (Int32 × Mem × PMem × (Nat → Int64) × Bool × Nat)} {fr : Mem → Option (Int32 × Mem)} {n : Nat} {K : Mem → PMem → (Nat → Int64) → Bool → Nat → Option α} {z : Mem → PMem → (Nat → Int64) → Bool → Nat → Option α} {Q : α → Prop}
    (hp : wp fc (fun y => wp (fr y.2.1) (fun w => w.2 8 0 0 2 = y.1 ∧ (y.1 = 0 → (w.1 = 0 ∨ w.1 = 1) ∧ y.2.2.2.1 0 = if w.1 = 0 then 0 else 1) ∧ G w.2 y.2.2.1 ∧ y.2.2.2.2.2 ≤ n + 1))) (hk : ∀ I P O D n', G I P → n' ≤ n + 1 → wp (K I P O D n') Q) :
    wp (fc.bind fun y41 => (fr y41.2.1).bind fun y42 => (f_X8_thrown y42.2).bind fun y43 =>
    if y43 = y41.1 then (if y41.1 = 0 then (if y42.1 = 0 then (if (lg_cmp (y41.2.2.2.1 0) (0 : Int64)) = 0 then (K y42.2 y41.2.2.1 y41.2.2.2.1 y41.2.2.2.2.1 y41.2.2.2.2.2) else (z y42.2 y41.2.2.1 y41.2.2.2.1 y41.2.2.2.2.1 y41.2.2.2.2.2)) else (if (lg_cmp (y41.2.2.2.1 0) (1 : Int64)) = 0 then (K y42.2 y41.2.2.1 y41.2.2.2.1 y41.2.2.2.2.1 y41.2.2.2.2.2) else (z y42.2 y41.2.2.1 y41.2.2.2.1 y41.2.2.2.2.1 y41.2.2.2.2.2))) else (K y42.2 y41.2.2.1 y41.2.2.2.1 y41.2.2.2.2.1 y41.2.2.2.2.2)) else (z y42.2 y41.2.2.1 y41.2.2.2.1 y41.2.2.2.2.1 y41.2.2.2.2.2)) Q := by
  refine wp_bind hp (fun y3 h => wp_bind h ?_)
  rintro y4 ⟨h1, h2, h3, h4⟩
  have ht : f_X8_thrown y4.2 = some (y4.2 8 0 0 2) := rfl
  rw [ht, Option.bind_some]
  refine wp_pos h1 (wp_ite (fun q => ?_) (fun _ => hk _ _ _ _ _ h3 h4))
  have h5 := (h2 q).2
  refine wp_ite (fun q2 => wp_pos ?_ (hk _ _ _ _ _ h3 h4)) (fun q2 => wp_pos ?_ (hk _ _ _ _ _ h3 h4))
  · rw [lg_cmp_eq, h5, if_pos q2]
  · rw [lg_cmp_eq, h5, if_neg q2]
set_option maxRecDepth 20000 in
theorem law_step (xs : Nat → Int32) {L : Nat} (hL : L ≤ 3072) {fu k : Nat} {I : Mem} {P : PMem} {O : Nat → Int64} {D : Bool} {n : Nat} (h : G I P) (hk : 6 * k + 6 ≤ L) {Q : Int32 × Mem × PMem × (Nat → Int64) × Bool × Nat → Prop}
    (hq : ∀ I P O D n', G I P → n' ≤ n + 1 → wp (f_law_23 xs L fu I P O D n' (nI (6 * k) + 6)) Q) : wp (f_law_23 xs L (fu + 1) I P O D n (nI (6 * k))) Q := by
  have h0 : inb (nI (6 * k)) L = true := inb_n (by omega)
  have h1 : inb (nI (6 * k) + 1) L = true := by rw [nI_1]; exact inb_n (by omega)
  have h2 : inb (nI (6 * k) + 2) L = true := by rw [n_2, nI_add]; exact inb_n (by omega)
  have h3 : inb (nI (6 * k) + 3) L = true := by rw [n_3, nI_add]; exact inb_n (by omega)
  have h4 : inb (nI (6 * k) + 4) L = true := by rw [n_4, nI_add]; exact inb_n (by omega)
  have h5 : inb (nI (6 * k) + 5) L = true := by rw [n_5, nI_add]; exact inb_n (by omega)
  unfold f_law_23
  refine wp_neg ?_ (wp_gd h0 ?_)
  · intro q
    have e : Int32.ofNat L - 6 = nI (L - 6) := pk_sub (a := L) (b := 6) (by omega)
    rw [e, nI_ltI (by omega) (by omega)] at q
    omega
  have hr : ∀ I P O D n', G I P → n' ≤ n + 1 → wp (f_law_23 xs L fu I P O D n' (nI (6 * k) + 6)) Q := hq
  have hs : ∀ I, G I P → wp (f_law_23 xs L fu I P O D n (nI (6 * k) + 6)) Q := fun I h => hq I P O D n h (by omega)
  refine wp_ite (fun _ => ?_) (fun _ => ?_)
  · exact wp_gd h1 (wp_gd h2 (wp_gd h3 (wp_gd h4 (wp_gd h5 (law_q (K := fun J => f_law_23 xs L fu J P O D n (nI (6 * k) + 6)) (z := fun J => some ((0 : Int32), J, P, O, D, n)) (p_feed h _ _ _ _ _) hs)))))
  refine wp_ite (fun _ => ?_) (fun _ => ?_)
  · exact wp_gd h1 (law_r (K := fun I P O D n' => f_law_23 xs L fu I P O D n' (nI (6 * k) + 6)) (z := fun I P O D n' => some ((0 : Int32), I, P, O, D, n')) (p_land h _) hr)
  refine wp_ite (fun _ => ?_) (fun _ => ?_)
  · exact law_f (I := I) (K := fun J => f_law_23 xs L fu J P O D n (nI (6 * k) + 6)) (z := fun J => some ((0 : Int32), J, P, O, D, n)) (p_fault h) hs
  refine wp_ite (fun _ => ?_) (fun _ => ?_)
  · exact wp_gd h1 (law_r (K := fun I P O D n' => f_law_23 xs L fu I P O D n' (nI (6 * k) + 6)) (z := fun I P O D n' => some ((0 : Int32), I, P, O, D, n')) (p_count h _) hr)
  refine wp_ite (fun _ => ?_) (fun _ => ?_)
  · exact wp_gd h1 (wp_gd h2 (wp_gd h3 (law_r (K := fun I P O D n' => f_law_23 xs L fu I P O D n' (nI (6 * k) + 6)) (z := fun I P O D n' => some ((0 : Int32), I, P, O, D, n')) (p_far h _ _ _) hr)))
  refine wp_ite (fun _ => ?_) (fun _ => ?_)
  · exact wp_gd h1 (wp_gd h2 (law_r (K := fun I P O D n' => f_law_23 xs L fu I P O D n' (nI (6 * k) + 6)) (z := fun I P O D n' => some ((0 : Int32), I, P, O, D, n')) (p_judge h _ _) hr))
  refine wp_ite (fun _ => ?_) (fun _ => ?_)
  · exact wp_gd h1 (wp_gd h2 (wp_gd h3 (law_r (K := fun I P O D n' => f_law_23 xs L fu I P O D n' (nI (6 * k) + 6)) (z := fun I P O D n' => some ((0 : Int32), I, P, O, D, n')) (p_stop h _ _ _) hr)))
  refine wp_ite (fun _ => ?_) (fun _ => ?_)
  · exact wp_gd h1 (wp_gd h2 (law_r (K := fun I P O D n' => f_law_23 xs L fu I P O D n' (nI (6 * k) + 6)) (z := fun I P O D n' => some ((0 : Int32), I, P, O, D, n')) (p_where h _ _) hr))
  refine wp_ite (fun _ => ?_) (fun _ => ?_)
  · exact wp_gd h1 (wp_gd h2 (law_r (K := fun I P O D n' => f_law_23 xs L fu I P O D n' (nI (6 * k) + 6)) (z := fun I P O D n' => some ((0 : Int32), I, P, O, D, n')) (p_proof h _ _) hr))
  refine wp_ite (fun _ => ?_) (fun _ => ?_)
  · exact wp_gd h1 (wp_gd h2 (wp_gd h3 (law_r (K := fun I P O D n' => f_law_23 xs L fu I P O D n' (nI (6 * k) + 6)) (z := fun I P O D n' => some ((0 : Int32), I, P, O, D, n')) (p_said h _ _ _) hr)))
  refine wp_ite (fun _ => ?_) (fun _ => ?_)
  · exact wp_gd h1 (wp_gd h2 (law_r (K := fun I P O D n' => f_law_23 xs L fu I P O D n' (nI (6 * k) + 6)) (z := fun I P O D n' => some ((0 : Int32), I, P, O, D, n')) (p_met h _ _) hr))
  refine wp_ite (fun _ => ?_) (fun _ => ?_)
  · exact wp_gd h1 (wp_gd h2 (law_r (K := fun I P O D n' => f_law_23 xs L fu I P O D n' (nI (6 * k) + 6)) (z := fun I P O D n' => some ((0 : Int32), I, P, O, D, n')) (p_guilty h _ _) hr))
  refine wp_ite (fun _ => ?_) (fun _ => ?_)
  · exact wp_gd h1 (wp_gd h2 (law_r (K := fun I P O D n' => f_law_23 xs L fu I P O D n' (nI (6 * k) + 6)) (z := fun I P O D n' => some ((0 : Int32), I, P, O, D, n')) (p_news h _ _) hr))
  refine wp_ite (fun _ => ?_) (fun _ => ?_)
  · exact wp_gd h1 (wp_gd h2 (law_r (K := fun I P O D n' => f_law_23 xs L fu I P O D n' (nI (6 * k) + 6)) (z := fun I P O D n' => some ((0 : Int32), I, P, O, D, n')) (p_start h _ _) hr))
  refine wp_ite (fun _ => ?_) (fun _ => ?_)
  · refine wp_gd h1 (wp_gd h2 ?_)
    by_cases q : xs (nI (6 * k) + 2).toNatClampNeg = 0
    · simp only [if_pos q]
      exact law_inn (K := fun I P O D n' => f_law_23 xs L fu I P O D n' (nI (6 * k) + 6)) (z := fun I P O D n' => some ((0 : Int32), I, P, O, D, n')) (fr := fun J => f_X8_inn J (xs (nI (6 * k) + 1).toNatClampNeg) 0) (p_inn h _ 0 (Or.inl rfl)) hr
    · simp only [if_neg q]
      exact law_inn (K := fun I P O D n' => f_law_23 xs L fu I P O D n' (nI (6 * k) + 6)) (z := fun I P O D n' => some ((0 : Int32), I, P, O, D, n')) (fr := fun J => f_X8_inn J (xs (nI (6 * k) + 1).toNatClampNeg) 1) (p_inn h _ 1 (Or.inr rfl)) hr
  refine wp_ite (fun _ => ?_) (fun _ => ?_)
  · exact wp_gd h1 (wp_gd h2 (wp_gd h3 (law_r (K := fun I P O D n' => f_law_23 xs L fu I P O D n' (nI (6 * k) + 6)) (z := fun I P O D n' => some ((0 : Int32), I, P, O, D, n')) (p_word h _ _ _) hr)))
  refine wp_ite (fun _ => ?_) (fun _ => ?_)
  · exact wp_gd h1 (wp_gd h2 (wp_gd h3 (law_r (K := fun I P O D n' => f_law_23 xs L fu I P O D n' (nI (6 * k) + 6)) (z := fun I P O D n' => some ((0 : Int32), I, P, O, D, n')) (p_feast h _ _ _) hr)))
  refine wp_ite (fun _ => ?_) (fun _ => ?_)
  · exact wp_gd h1 (wp_gd h2 (wp_gd h3 (law_r (K := fun I P O D n' => f_law_23 xs L fu I P O D n' (nI (6 * k) + 6)) (z := fun I P O D n' => some ((0 : Int32), I, P, O, D, n')) (p_flood h _ _ _) hr)))
  refine wp_ite (fun _ => ?_) (fun _ => ?_)
  · exact law_q (K := fun J => f_law_23 xs L fu J P O D n (nI (6 * k) + 6)) (z := fun J => some ((0 : Int32), J, P, O, D, n)) (p_undo h ) hs
  refine wp_ite (fun _ => ?_) (fun _ => ?_)
  · exact wp_gd h1 (law_r (K := fun I P O D n' => f_law_23 xs L fu I P O D n' (nI (6 * k) + 6)) (z := fun I P O D n' => some ((0 : Int32), I, P, O, D, n')) (p_burn h _) hr)
  refine wp_ite (fun _ => ?_) (fun _ => ?_)
  · exact wp_gd h1 (wp_gd h2 (law_r (K := fun I P O D n' => f_law_23 xs L fu I P O D n' (nI (6 * k) + 6)) (z := fun I P O D n' => some ((0 : Int32), I, P, O, D, n')) (p_when h _ _) hr))
  refine wp_ite (fun _ => ?_) (fun _ => ?_)
  · exact wp_gd h1 (law_r (K := fun I P O D n' => f_law_23 xs L fu I P O D n' (nI (6 * k) + 6)) (z := fun I P O D n' => some ((0 : Int32), I, P, O, D, n')) (p_round h _) hr)
  refine wp_ite (fun _ => ?_) (fun _ => ?_)
  · exact wp_gd h1 (wp_gd h2 (law_r (K := fun I P O D n' => f_law_23 xs L fu I P O D n' (nI (6 * k) + 6)) (z := fun I P O D n' => some ((0 : Int32), I, P, O, D, n')) (p_free h _ _) hr))
  refine wp_ite (fun _ => ?_) (fun _ => ?_)
  · exact wp_gd h1 (law_r (K := fun I P O D n' => f_law_23 xs L fu I P O D n' (nI (6 * k) + 6)) (z := fun I P O D n' => some ((0 : Int32), I, P, O, D, n')) (p_mercy h _) hr)
  refine wp_ite (fun _ => ?_) (fun _ => ?_)
  · exact wp_gd h1 (law_r (K := fun I P O D n' => f_law_23 xs L fu I P O D n' (nI (6 * k) + 6)) (z := fun I P O D n' => some ((0 : Int32), I, P, O, D, n')) (p_deaf h _) hr)
  refine wp_ite (fun _ => ?_) (fun _ => ?_)
  · exact wp_gd h1 (law_r (K := fun I P O D n' => f_law_23 xs L fu I P O D n' (nI (6 * k) + 6)) (z := fun I P O D n' => some ((0 : Int32), I, P, O, D, n')) (p_soonest h _) hr)
  refine wp_ite (fun _ => ?_) (fun _ => ?_)
  · refine wp_gd h1 (wp_gd h2 (wp_gd h3 ?_))
    by_cases q : xs (nI (6 * k) + 3).toNatClampNeg = 0
    · simp only [if_pos q]
      exact law_r (K := fun I P O D n' => f_law_23 xs L fu I P O D n' (nI (6 * k) + 6)) (z := fun I P O D n' => some ((0 : Int32), I, P, O, D, n')) (p_see h _ _ 0) hr
    · simp only [if_neg q]
      exact law_r (K := fun I P O D n' => f_law_23 xs L fu I P O D n' (nI (6 * k) + 6)) (z := fun I P O D n' => some ((0 : Int32), I, P, O, D, n')) (p_see h _ _ 1) hr
  refine wp_ite (fun _ => ?_) (fun _ => ?_)
  · exact law_q (K := fun J => f_law_23 xs L fu J P O D n (nI (6 * k) + 6)) (z := fun J => some ((0 : Int32), J, P, O, D, n)) (p_forget h ) hs
  refine wp_ite (fun _ => ?_) (fun _ => ?_)
  · exact wp_gd h1 (wp_gd h2 (law_r (K := fun I P O D n' => f_law_23 xs L fu I P O D n' (nI (6 * k) + 6)) (z := fun I P O D n' => some ((0 : Int32), I, P, O, D, n')) (p_sent h _ _) hr))
  refine wp_ite (fun _ => ?_) (fun _ => ?_)
  · exact wp_gd h1 (wp_gd h2 (law_r (K := fun I P O D n' => f_law_23 xs L fu I P O D n' (nI (6 * k) + 6)) (z := fun I P O D n' => some ((0 : Int32), I, P, O, D, n')) (p_game h _ _) hr))
  refine wp_ite (fun _ => ?_) (fun _ => ?_)
  · exact wp_gd h1 (wp_gd h2 (wp_gd h3 (law_r (K := fun I P O D n' => f_law_23 xs L fu I P O D n' (nI (6 * k) + 6)) (z := fun I P O D n' => some ((0 : Int32), I, P, O, D, n')) (p_season h _ _ _) hr)))
  refine wp_ite (fun _ => ?_) (fun _ => ?_)
  · exact law_im (K := fun J => f_law_23 xs L fu J P O D n (nI (6 * k) + 6)) (p_image h) hs
  refine wp_ite (fun _ => ?_) (fun _ => ?_)
  · exact law_q (K := fun J => f_law_23 xs L fu J P O D n (nI (6 * k) + 6)) (z := fun J => some ((0 : Int32), J, P, O, D, n)) (p_restore h ) hs
  exact hs I h
theorem law_loop (xs : Nat → Int32) {L : Nat} (hL : L ≤ 3072) : ∀ m fu k I P O D n, L < 6 * (k + m) + 6 → 6 * k ≤ L + 6 → m < fu → G I P → wp (f_law_23 xs L fu I P O D n (nI (6 * k))) (fun r => r.1 = 1 ∧ r.2.2.2.2.2 ≤ n + m) := by
  intro m
  induction m with
  | zero =>
    intro fu k I P O D n h1 h2 hf h
    obtain ⟨g, rfl⟩ := Nat.exists_eq_succ_of_ne_zero (by omega : fu ≠ 0)
    unfold f_law_23
    refine wp_pos ?_ (wp_some ⟨rfl, Nat.le_refl _⟩)
    rw [fa_lt, nI_toInt (by omega)]
    have e : (Int32.ofNat L - 6).toInt = (L : Int) - 6 := pk_sub_toInt (a := L) (b := 6) (by omega) (by omega)
    rw [e]; omega
  | succ m ih =>
    intro fu k I P O D n h1 h2 hf h
    obtain ⟨g, rfl⟩ := Nat.exists_eq_succ_of_ne_zero (by omega : fu ≠ 0)
    by_cases q : 6 * k + 6 ≤ L
    · refine law_step xs hL h q (fun I' P' O' D' n' h' hn => ?_)
      rw [show (6 : Int32) = nI 6 from rfl, nI_add, show 6 * k + 6 = 6 * (k + 1) by omega]
      refine wp_mono (ih g (k + 1) I' P' O' D' n' (by omega) (by omega) (by omega) h') ?_
      rintro r ⟨r1, r2⟩
      exact ⟨r1, by omega⟩
    · unfold f_law_23
      refine wp_pos ?_ (wp_some ⟨rfl, Nat.le_add_right _ _⟩)
      rw [fa_lt, nI_toInt (by omega)]
      have e : (Int32.ofNat L - 6).toInt = (L : Int) - 6 := pk_sub_toInt (a := L) (b := 6) (by omega) (by omega)
      rw [e]; omega
theorem law_true (xs : Nat → Int32) {L : Nat} (hL : L ≤ 3072) : ∃ r : Int32 × Mem × PMem × (Nat → Int64) × Bool × Nat, f_law_23 xs L FU I0 P0 O0 false 3000 0 = some r ∧ r.1 = 1 ∧ r.2.2.2.2.2 ≤ 600000 := by
  obtain ⟨r, e, h1, h2⟩ := law_loop xs hL 513 FU 0 I0 P0 O0 false 3000 (by omega) (by omega) (by unfold FU; omega) G0
  exact ⟨r, e, h1, by omega⟩
