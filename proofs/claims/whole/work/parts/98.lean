theorem law_true (xs : Nat → Int32) {L : Nat} (hL : L ≤ 3072) : ∃ r : Int32 × Mem × PMem × (Nat → Int64) × Bool × Nat, f_law_23 xs L FU I0 P0 O0 false 3000 0 = some r ∧ r.1 = 1 ∧ r.2.2.2.2.2 ≤ 600000 := by
  sorry
