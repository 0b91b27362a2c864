/-! behind a fault nothing is read -/
section
variable {I : Mem}
theorem x4_1 : ¬ (4 : Int32) = 1 := by decide
theorem x4_2 : ¬ (4 : Int32) = 2 := by decide
theorem x4_3 : ¬ (4 : Int32) = 3 := by decide
theorem d_adv (h : I 5 0 0 0 ≠ 0) : f_X5_advance I = some I := if_neg h
theorem d_ref (h : I 5 0 0 0 ≠ 0) (v : Int32) : f_X5_refuse I v = some I := if_neg h
theorem d_word (h4 : I 5 0 0 5 = 4) (z : Nat) : f_X5_isWord I z = some 0 := by unfold f_X5_isWord; rw [h4]; exact if_neg x4_1
theorem d_sign (h4 : I 5 0 0 5 = 4) (v : Int32) : f_X5_isSign I v = some 0 := by unfold f_X5_isSign; rw [h4]; exact if_neg x4_3
theorem d_look (h : I 5 0 0 0 ≠ 0) (h4 : I 5 0 0 5 = 4) (a b : Int32) : f_X5_lookAtNumber I a b = some (-1, I) := by
  unfold f_X5_lookAtNumber; rw [h4, if_neg x4_2, d_ref h]; rfl
theorem d_take (h : I 5 0 0 0 ≠ 0) (h4 : I 5 0 0 5 = 4) (a b : Int32) : f_X5_takeNumber I a b = some (-1, I) := by
  unfold f_X5_takeNumber; rw [d_look h h4, Option.bind_some, d_adv h]; rfl
theorem d_town {P : PMem} (hP : P 5 0 0 4 < 2) (h : I 5 0 0 0 ≠ 0) (h4 : I 5 0 0 5 = 4) : f_X5_lookAtTown P I = some (-1, I) := by
  unfold f_X5_lookAtTown
  rw [d_look h h4, Option.bind_some, gd_t (dlt hP), d_ref h, Option.bind_some]
  unfold f_X5_lookAtTown_25
  rw [if_neg h]
  split <;> rfl
theorem d_tsign (h : I 5 0 0 0 ≠ 0) (h4 : I 5 0 0 5 = 4) (v : Int32) : f_X5_takeSign I v = some I := by
  unfold f_X5_takeSign f_X5_takeSign_13
  rw [d_sign h4, Option.bind_some, if_pos rfl, d_ref h, Option.bind_some, d_adv h]; rfl
/-! the language's readers, class -/
theorem d_part {rc : PMem → Mem → Int32 → Option Mem} {P : PMem} (h : I 5 0 0 0 ≠ 0) (h4 : I 5 0 0 5 = 4) (v : Int32) : f_X5_readPart rc P I v = some I := by
  unfold f_X5_readPart
  rw [h4, if_neg x4_2, if_neg x4_1, d_sign h4, Option.bind_some, if_pos rfl, d_ref h]; rfl
theorem d_prod7 {rc : PMem → Mem → Int32 → Option Mem} {P : PMem} (h4 : I 5 0 0 5 = 4) (fu : Nat) (v w : Int32) : f_X5_readProduct_7 rc P (fu + 1) I v w = some I := by
  unfold f_X5_readProduct_7
  split
  · rfl
  · rw [d_sign h4, Option.bind_some, if_pos rfl, d_sign h4, Option.bind_some, if_pos rfl]
theorem d_prod {rc : PMem → Mem → Int32 → Option Mem} {P : PMem} (h : I 5 0 0 0 ≠ 0) (h4 : I 5 0 0 5 = 4) (v : Int32) : f_X5_readProduct rc P I v = some I := by
  unfold f_X5_readProduct
  rw [d_part h h4, Option.bind_some]
  exact d_prod7 h4 1999 v 0
theorem d_sum7 {rc : PMem → Mem → Int32 → Option Mem} {P : PMem} (h4 : I 5 0 0 5 = 4) (fu : Nat) (v w : Int32) : f_X5_readSum_7 rc P (fu + 1) I v w = some I := by
  unfold f_X5_readSum_7
  split
  · rfl
  · rw [d_sign h4, Option.bind_some, if_pos rfl, d_sign h4, Option.bind_some, if_pos rfl]
theorem d_sum {rc : PMem → Mem → Int32 → Option Mem} {P : PMem} (h : I 5 0 0 0 ≠ 0) (h4 : I 5 0 0 5 = 4) (v : Int32) : f_X5_readSum rc P I v = some I := by
  unfold f_X5_readSum
  rw [d_prod h h4, Option.bind_some]
  exact d_sum7 h4 1999 v 0
theorem d_test {rc : PMem → Mem → Int32 → Option Mem} {P : PMem} (h : I 5 0 0 0 ≠ 0) (h4 : I 5 0 0 5 = 4) (v : Int32) : f_X5_readTest rc P I v = some I := by
  unfold f_X5_readTest
  rw [d_sum h h4, Option.bind_some, d_sign h4, Option.bind_some, if_pos rfl, d_sign h4, Option.bind_some, if_pos rfl]
  unfold f_X5_readTest_36
  rw [if_pos rfl]
theorem d_not {rc : PMem → Mem → Int32 → Option Mem} {P : PMem} (h : I 5 0 0 0 ≠ 0) (h4 : I 5 0 0 5 = 4) (v : Int32) : f_X5_readNot rc P I v = some I := by
  unfold f_X5_readNot
  show f_X5_readNot_2 rc P (1999 + 1) I v 0 = _
  unfold f_X5_readNot_2
  rw [if_neg (by decide), d_word h4, Option.bind_some, if_pos rfl]
  unfold f_X5_readNot_38
  rw [d_test h h4, Option.bind_some]
  show f_X5_readNot_45 rc P (1999 + 1) I 0 0 = _
  unfold f_X5_readNot_45
  rw [if_pos (by decide)]
theorem d_and7 {rc : PMem → Mem → Int32 → Option Mem} {P : PMem} (h4 : I 5 0 0 5 = 4) (fu : Nat) (v w : Int32) : f_X5_readAnd_7 rc P (fu + 1) I v w = some I := by
  unfold f_X5_readAnd_7
  split
  · rfl
  · rw [d_word h4, Option.bind_some, if_pos rfl]
theorem d_and {rc : PMem → Mem → Int32 → Option Mem} {P : PMem} (h : I 5 0 0 0 ≠ 0) (h4 : I 5 0 0 5 = 4) (v : Int32) : f_X5_readAnd rc P I v = some I := by
  unfold f_X5_readAnd
  rw [d_not h h4, Option.bind_some]
  exact d_and7 h4 1999 v 0
theorem d_expr48 {rc : PMem → Mem → Int32 → Option Mem} {P : PMem} (h4 : I 5 0 0 5 = 4) (fu : Nat) (v w : Int32) : f_X5_readExpr_48 rc P (fu + 1) I v w = some I := by
  unfold f_X5_readExpr_48
  split
  · rfl
  · rw [d_word h4, Option.bind_some, if_pos rfl]
theorem d_expr {rc : PMem → Mem → Int32 → Option Mem} {P : PMem} (h : I 5 0 0 0 ≠ 0) (h4 : I 5 0 0 5 = 4) (v : Int32) : f_X5_readExpr rc P I v = some I := by
  unfold f_X5_readExpr
  split
  · rw [d_and h h4, Option.bind_some]
    exact d_expr48 h4 1999 v 0
  · rw [h4, if_neg x4_2, if_neg x4_1, d_sign h4, Option.bind_some, if_pos rfl]
    unfold f_X5_readExpr_37
    rw [d_ref h]; rfl
/-! the reference -/
theorem d_wrong (h : I 8 0 0 21 ≠ 0) (v : Int32) : f_X8_wrong I v = some I := if_neg h
theorem d_is (h : I 8 0 0 21 ≠ 0) (z : Nat) : f_X8_is I z = some 0 := by
  unfold f_X8_is; rw [if_neg h, r_is0]
theorem r_which_2 {c N : Nat} (w : Nat → Bool) (hc : cL c 0 = N) (hN : N ≤ 8) (hw : ∀ i, i < N → f_X8_is I (cS c + i) = some (bI (w i))) : ∀ m fu i, i + m = N → m < fu →
    f_X8_which_2 I c fu (nI i) = some (if ff w i m < N then nI (ff w i m) else -1) := by
  intro m
  induction m with
  | zero =>
    intro fu i hi hf
    obtain ⟨g, rfl⟩ := Nat.exists_eq_succ_of_ne_zero (by omega : fu ≠ 0)
    unfold f_X8_which_2
    rw [hc, show Int32.ofNat N = nI N from rfl, if_pos (nI_le (a := N) (by omega) (by omega)), ff, if_neg (by omega)]
  | succ m ih =>
    intro fu i hi hf
    obtain ⟨g, rfl⟩ := Nat.exists_eq_succ_of_ne_zero (by omega : fu ≠ 0)
    unfold f_X8_which_2
    rw [hc, show Int32.ofNat N = nI N from rfl, if_neg (nI_ge (a := i) (b := N) (by omega) (by omega)), gd_t (inb_n (by omega)), nI_clamp (by omega), hw i (by omega), Option.bind_some, nI_1, ih g (i + 1) (by omega) (by omega), ff]
    cases h : w i
    · rw [if_pos (show bI false = 0 from rfl)]; simp
    · rw [if_neg (by decide)]; simp; omega
theorem r_which {c N : Nat} (w : Nat → Bool) (hc : cL c 0 = N) (hN : N ≤ 8) (hw : ∀ i, i < N → f_X8_is I (cS c + i) = some (bI (w i))) : f_X8_which I c = some (if ff w 0 N < N then nI (ff w 0 N) else -1) :=
  r_which_2 w hc hN hw N FU 0 (by omega) (by unfold FU; omega)
theorem d_which (h : I 8 0 0 21 ≠ 0) {c N : Nat} (hc : cL c 0 = N) (hN : N ≤ 8) : f_X8_which I c = some (-1) := by
  rw [r_which (fun _ => false) hc hN (fun i _ => d_is h _), ff_none _ (fun _ _ _ => rfl), if_neg (by omega)]
theorem d_marked (h : I 8 0 0 21 ≠ 0) (v : Int32) : f_X8_isMarked I v = some 0 := if_neg h
theorem d_mark (h : I 8 0 0 21 ≠ 0) (v : Int32) : f_X8_mark I v = some I := by
  unfold f_X8_mark f_X8_mark_20
  rw [if_neg h, if_neg h]
theorem d_now (h : I 8 0 0 21 ≠ 0) (a b : Int32) : f_X8_numberNow I a b = some (0, I) := if_neg h
theorem d_rnum (h : I 8 0 0 21 ≠ 0) (a b : Int32) : f_X8_readNumber I a b = some (0, I) := by
  unfold f_X8_readNumber
  rw [d_now h, Option.bind_some]
  exact if_neg h
theorem d_tnow (h : I 8 0 0 21 ≠ 0) : f_X8_townNow I = some (0, I) := by
  unfold f_X8_townNow f_X8_townNow_32
  rw [d_now h, Option.bind_some]
  show (if I 8 0 0 21 = 0 then _ else if I 8 0 0 21 = 0 then _ else _) = _
  rw [if_neg h, if_neg h]
theorem d_lay (h : I 8 0 0 21 ≠ 0) (v : Int32) : f_X8_lay I v = some I := if_neg h
theorem e_part {rc : Mem → Int32 → Option Mem} (h : I 8 0 0 21 ≠ 0) (v : Int32) : f_X8_readPart rc I v = some I := if_neg h
theorem e_prod5 {rc : Mem → Int32 → Option Mem} (h : I 8 0 0 21 ≠ 0) (fu : Nat) (v : Int32) : f_X8_readProduct_5 rc (fu + 1) I v = some I := by
  unfold f_X8_readProduct_5
  rw [d_marked h, Option.bind_some, if_pos rfl, d_marked h, Option.bind_some, if_pos rfl]
theorem e_prod {rc : Mem → Int32 → Option Mem} (h : I 8 0 0 21 ≠ 0) (v : Int32) : f_X8_readProduct rc I v = some I := by
  unfold f_X8_readProduct
  rw [e_part h, Option.bind_some]
  exact e_prod5 h 1999 v
theorem e_sum5 {rc : Mem → Int32 → Option Mem} (h : I 8 0 0 21 ≠ 0) (fu : Nat) (v : Int32) : f_X8_readSum_5 rc (fu + 1) I v = some I := by
  unfold f_X8_readSum_5
  rw [d_marked h, Option.bind_some, if_pos rfl, d_marked h, Option.bind_some, if_pos rfl]
theorem e_sum {rc : Mem → Int32 → Option Mem} (h : I 8 0 0 21 ≠ 0) (v : Int32) : f_X8_readSum rc I v = some I := by
  unfold f_X8_readSum
  rw [e_prod h, Option.bind_some]
  exact e_sum5 h 1999 v
theorem e_not95 {rc : Mem → Int32 → Option Mem} (h : I 8 0 0 21 ≠ 0) : ∀ m fu i N, i + m = N → N < 100 → m < fu → f_X8_readNot_95 rc fu I (nI N) (nI i) = some I := by
  intro m
  induction m with
  | zero =>
    intro fu i N hi hN hf
    obtain ⟨g, rfl⟩ := Nat.exists_eq_succ_of_ne_zero (by omega : fu ≠ 0)
    unfold f_X8_readNot_95
    rw [if_pos (nI_le (by omega) (by omega))]
  | succ m ih =>
    intro fu i N hi hN hf
    obtain ⟨g, rfl⟩ := Nat.exists_eq_succ_of_ne_zero (by omega : fu ≠ 0)
    unfold f_X8_readNot_95
    rw [if_neg (nI_ge (by omega) (by omega)), d_lay h, Option.bind_some, nI_1]
    exact ih g (i + 1) N (by omega) hN (by omega)
theorem e_not2 {rc : Mem → Int32 → Option Mem} (h : I 8 0 0 21 ≠ 0) (fu : Nat) (v : Int32) {N : Nat} (hN : N < 100) : f_X8_readNot_2 rc (fu + 1) I v (nI N) = some I := by
  unfold f_X8_readNot_2
  rw [d_is h, Option.bind_some, if_pos rfl, e_sum h, Option.bind_some, d_marked h, Option.bind_some, if_pos rfl, d_marked h, Option.bind_some, if_pos rfl]
  unfold f_X8_readNot_93
  exact e_not95 h N FU 0 N (by omega) hN (by unfold FU; omega)
theorem e_not {rc : Mem → Int32 → Option Mem} (h : I 8 0 0 21 ≠ 0) (v : Int32) : f_X8_readNot rc I v = some I := e_not2 h 1999 v (N := 0) (by omega)
theorem e_and5 {rc : Mem → Int32 → Option Mem} (h : I 8 0 0 21 ≠ 0) (fu : Nat) (v : Int32) : f_X8_readAnd_5 rc (fu + 1) I v = some I := by
  unfold f_X8_readAnd_5
  rw [d_is h, Option.bind_some, if_pos rfl]
theorem e_and {rc : Mem → Int32 → Option Mem} (h : I 8 0 0 21 ≠ 0) (v : Int32) : f_X8_readAnd rc I v = some I := by
  unfold f_X8_readAnd
  rw [e_not h, Option.bind_some]
  exact e_and5 h 1999 v
theorem e_expr67 {rc : Mem → Int32 → Option Mem} (h : I 8 0 0 21 ≠ 0) (fu : Nat) (v : Int32) : f_X8_readExpression_67 rc (fu + 1) I v = some I := by
  unfold f_X8_readExpression_67
  rw [d_is h, Option.bind_some, if_pos rfl]
theorem e_expr62 {rc : Mem → Int32 → Option Mem} (h : I 8 0 0 21 ≠ 0) (v : Int32) : f_X8_readExpression_62 rc I v = some I := by
  unfold f_X8_readExpression_62
  rw [e_and h, Option.bind_some]
  exact e_expr67 h 1999 v
theorem e_expr {rc : Mem → Int32 → Option Mem} (h : I 8 0 0 21 ≠ 0) (v : Int32) : f_X8_readExpression rc I v = some I := if_neg h
end
