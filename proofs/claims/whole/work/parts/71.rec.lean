/-! records: a land, a bench -/
def Land : Type := (Nat) × (Nat) × (Nat) × (Nat → Nat) × (Nat → Nat → Nat) × (Nat → Nat → Int32) × (Nat → Nat → Int32) × (Nat → Int32) × (Nat → Int32) × (Nat → Nat) × (Nat) × (Nat → Nat → Int32) × (Int32) × (Nat → Nat → Int32) × (Nat)
def lT (x : Land) : Nat := x.1
def lJ (x : Land) : Nat := x.2.1
def lC (x : Land) : Nat := x.2.2.1
def lns (x : Land) : Nat → Nat := x.2.2.2.1
def lrt (x : Land) : Nat → Nat → Nat := x.2.2.2.2.1
def lrm (x : Land) : Nat → Nat → Int32 := x.2.2.2.2.2.1
def lpf (x : Land) : Nat → Nat → Int32 := x.2.2.2.2.2.2.1
def lkd (x : Land) : Nat → Int32 := x.2.2.2.2.2.2.2.1
def lhs (x : Land) : Nat → Int32 := x.2.2.2.2.2.2.2.2.1
def lcd (x : Land) : Nat → Nat := x.2.2.2.2.2.2.2.2.2.1
def llen (x : Land) : Nat := x.2.2.2.2.2.2.2.2.2.2.1
def lrd (x : Land) : Nat → Nat → Int32 := x.2.2.2.2.2.2.2.2.2.2.2.1
def lgg (x : Land) : Int32 := x.2.2.2.2.2.2.2.2.2.2.2.2.1
def lnw (x : Land) : Nat → Nat → Int32 := x.2.2.2.2.2.2.2.2.2.2.2.2.2.1
def lnr (x : Land) : Nat := x.2.2.2.2.2.2.2.2.2.2.2.2.2.2
def Ben : Type := (Nat → Int32) × (Int32) × (Nat) × (Nat → Int32) × (Nat → Int32) × (Nat → Int32) × (Nat) × (Nat → Nat) × (Nat → Int32) × (Nat → Int32) × (Nat) × (Nat → Int32) × (Nat → Nat) × (Nat → Int32)
def bd0 (x : Ben) : Nat → Int32 := x.1
def binns (x : Ben) : Int32 := x.2.1
def bnf (x : Ben) : Nat := x.2.2.1
def bf1 (x : Ben) : Nat → Int32 := x.2.2.2.1
def bf2 (x : Ben) : Nat → Int32 := x.2.2.2.2.1
def bf3 (x : Ben) : Nat → Int32 := x.2.2.2.2.2.1
def bnl (x : Ben) : Nat := x.2.2.2.2.2.2.1
def bgt (x : Ben) : Nat → Nat := x.2.2.2.2.2.2.2.1
def bg2 (x : Ben) : Nat → Int32 := x.2.2.2.2.2.2.2.2.1
def bg3 (x : Ben) : Nat → Int32 := x.2.2.2.2.2.2.2.2.2.1
def bn (x : Ben) : Nat := x.2.2.2.2.2.2.2.2.2.2.1
def bw1 (x : Ben) : Nat → Int32 := x.2.2.2.2.2.2.2.2.2.2.2.1
def bwt (x : Ben) : Nat → Nat := x.2.2.2.2.2.2.2.2.2.2.2.2.1
def bw3 (x : Ben) : Nat → Int32 := x.2.2.2.2.2.2.2.2.2.2.2.2.2
/-! the court of a land, a bench and the stops (tw, dy) -/
section
variable (L : Land) (B : Ben) (tw : Nat → Nat → Nat) (dy : Nat → Nat → Int32)
def qH : Nat → Nat → Nat → Bool := Hp tw dy (lpf L) (bnf B) (bf1 B) (bf2 B) (bf3 B)
def qtl (c j : Nat) : Bool := decide (ff (qH L B tw dy c j) 0 (lns L j) < lns L j)
def qsd (c j : Nat) : Int32 := sdA (qH L B tw dy) dy c j (lns L j)
def qst (c j : Nat) : Int32 := stA (qH L B tw dy) tw c j (lns L j)
def qsn (c j : Nat) : Nat := tw j (ff (qH L B tw dy c j) 0 (lns L j))
def qgv : Nat → Nat → Bool := Gv (qH L B tw dy) tw dy (lcd L) (llen L) (lpf L) (lhs L) (lkd L) (lJ L) (lns L)
def qrc : Nat → Nat → Bool := rcV (lnw L) (lJ L) (lns L) tw dy (qtl L B tw dy) (qsd L B tw dy) (qsn L B tw dy) (bn B) (bw1 B) (bwt B) (bw3 B)
def qmt (inns : Int32) (a b : Nat) : Int32 := mv (mtg inns (lrd L) (lns L) tw dy (bnl B) (bgt B) (bg2 B) (bg3 B) a b)
def qtr (inns : Int32) (more df : Int32) (c : Nat) : Int32 × Int32 := trv (lJ L) (qtl L B tw dy) (qsd L B tw dy) (qst L B tw dy) (qgv L B tw dy) (qrc L B tw dy) (qmt L B tw dy inns) more df c
def qdf : Int32 := bs (fun j => decide (lkd L j = 1)) 0 (lJ L) 0
end
/-- a land that was read -/
def LOK (L : Land) : Prop :=
  lT L ≤ 9 ∧ lJ L ≤ 5 ∧ lC L ≤ 6 ∧ (∀ j, j < lJ L → 1 ≤ lns L j ∧ lns L j ≤ 7) ∧ (∀ j, j < lJ L → ∀ i, i < lns L j → lrt L j i < lT L) ∧
  (∀ j, j < lJ L → ∀ i, i + 1 < lns L j → 1 ≤ (lrm L (lrt L j i) (lrt L j (i + 1))).toInt ∧ (lrm L (lrt L j i) (lrt L j (i + 1))).toInt ≤ 9) ∧
  (∀ a b, a < lT L → b < lT L → lrm L a b = lrm L b a) ∧ vld (lcd L) (llen L) ∧ wyB (lT L) (lrd L) (lgg L) (lnw L)
/-- a bench that was acted on -/
def BOK (L : Land) (B : Ben) : Prop :=
  (∀ j, j < lJ L → 0 ≤ (bd0 B j).toInt ∧ (bd0 B j).toInt ≤ 60) ∧ bnf B ≤ 4 ∧ bnl B ≤ 6 ∧ fldW (bnl B) (lT L) (bgt B) (bg2 B) (bg3 B) ∧ bn B ≤ 5 ∧ wdW (bn B) (lT L) (bwt B) (bw3 B)
/-- stops that a round can have -/
def SOK (L : Land) (tw : Nat → Nat → Nat) (dy : Nat → Nat → Int32) : Prop := Days dy (lJ L) (lns L) ∧ twT (lJ L) (lns L) tw (lT L)
/-- a round from a first day, forward or back -/
def twB (L : Land) (bw : Nat → Bool) (j : Nat) : Nat → Nat := roB (lrt L j) (lns L j) (bw j)
def dyB (L : Land) (bw : Nat → Bool) (d0 : Nat → Int32) (j : Nat) : Nat → Int32 := dys (lrm L) (twB L bw j) (d0 j)
theorem dys_b {rm : Nat → Nat → Int32} {ro : Nat → Nat} {d0 : Int32} (h0 : 0 ≤ d0.toInt ∧ d0.toInt ≤ 60) {n : Nat} (hn : n ≤ 7) (hr : ∀ i, i + 1 < n → 1 ≤ (rm (ro i) (ro (i + 1))).toInt ∧ (rm (ro i) (ro (i + 1))).toInt ≤ 9) :
    ∀ i, i < n → 0 ≤ (dys rm ro d0 i).toInt ∧ (dys rm ro d0 i).toInt ≤ 60 + 9 * i ∧ ∀ k, k < i → (dys rm ro d0 k).toInt < (dys rm ro d0 i).toInt := by
  intro i
  induction i with
  | zero => intro _; exact ⟨h0.1, by rw [dys]; omega, fun k hk => absurd hk (Nat.not_lt_zero k)⟩
  | succ i ih =>
    intro hi
    obtain ⟨h1, h2, h3⟩ := ih (by omega)
    obtain ⟨r1, r2⟩ := hr i hi
    have e : (dys rm ro d0 (i + 1)).toInt = (dys rm ro d0 i).toInt + (rm (ro i) (ro (i + 1))).toInt := by
      have ex : dys rm ro d0 i = nI (dys rm ro d0 i).toInt.toNat := by rw [fa_eq, nI_toInt (by omega)]; omega
      have ey : rm (ro i) (ro (i + 1)) = nI (rm (ro i) (ro (i + 1))).toInt.toNat := by rw [fa_eq, nI_toInt (by omega)]; omega
      rw [dys]
      conv => lhs; rw [ex, ey, nI_add, nI_toInt (by omega)]
      omega
    refine ⟨by omega, by rw [e]; push_cast; omega, fun k hk => ?_⟩
    by_cases q : k = i
    · rw [q, e]; omega
    · have := h3 k (by omega); omega
theorem B_SOK {L : Land} (h : LOK L) {d0 : Nat → Int32} (hd : ∀ j, j < lJ L → 0 ≤ (d0 j).toInt ∧ (d0 j).toInt ≤ 60) (bw : Nat → Bool) : SOK L (twB L bw) (dyB L bw d0) := by
  obtain ⟨hT, hJ, hC, hns, hrt, hrm, hsy, _⟩ := h
  have hro : ∀ j, j < lJ L → ∀ i, i + 1 < lns L j → 1 ≤ (lrm L (twB L bw j i) (twB L bw j (i + 1))).toInt ∧ (lrm L (twB L bw j i) (twB L bw j (i + 1))).toInt ≤ 9 := by
    intro j hj i hi
    unfold twB roB
    cases bw j
    · exact hrm j hj i hi
    · simp only [if_true]
      rw [hsy _ _ (hrt j hj _ (by omega)) (hrt j hj _ (by omega))]
      have := hrm j hj (lns L j - 1 - (i + 1)) (by omega)
      rwa [show lns L j - 1 - (i + 1) + 1 = lns L j - 1 - i by omega] at this
  have key := fun j hj => dys_b (rm := lrm L) (ro := twB L bw j) (hd j hj) (hns j hj).2 (hro j hj)
  refine ⟨⟨fun j i hj hi => ?_, fun j i i' hj h1 h2 => (key j hj i' h2).2.2 i h1⟩, fun j hj i hi => ?_⟩
  · obtain ⟨a, b, _⟩ := key j hj i hi
    have := (hns j hj).2
    exact ⟨a, by show (dys _ _ _ i).toInt ≤ 114; omega⟩
  · unfold twB roB
    split
    · exact hrt j hj _ (by omega)
    · exact hrt j hj i hi
section
variable {L : Land} {B : Ben} {tw : Nat → Nat → Nat} {dy : Nat → Nat → Int32}
theorem q_sdW (hS : SOK L tw dy) : sdW (lC L) (lJ L) (lT L) (qtl L B tw dy) (qsd L B tw dy) (qst L B tw dy) (qsn L B tw dy) := by
  intro c hc j hj
  constructor
  · intro h
    have h' := of_decide_eq_true h
    have e1 : qsd L B tw dy c j = dy j (ff (qH L B tw dy c j) 0 (lns L j)) := if_pos h'
    have e2 : qst L B tw dy c j = nI (tw j (ff (qH L B tw dy c j) 0 (lns L j))) := if_pos h'
    rw [e1, e2]
    obtain ⟨a, b⟩ := hS.1.1 j _ hj h'
    exact ⟨a, b, rfl, hS.2 j hj _ h'⟩
  · intro h
    have h' := of_decide_eq_false h
    exact ⟨if_neg h', if_neg h'⟩
theorem q_okQ (hL : LOK L) (hB : BOK L B) (hS : SOK L tw dy) : okQ (lC L) (lJ L) (lT L) (lns L) tw dy (bn B) (bwt B) (bw3 B) (qtl L B tw dy) (qsd L B tw dy) (qst L B tw dy) (qsn L B tw dy) :=
  ⟨hL.2.2.1, hS.1, hS.2, hB.2.2.2.2.1, hB.2.2.2.2.2, q_sdW hS⟩
theorem q_rch (c j : Nat) : rch (qH L B tw dy) (lnw L) (lJ L) (lns L) tw dy (bn B) (bw1 B) (bwt B) (bw3 B) c j = qrc L B tw dy c j := by
  unfold rch qrc rcV
  congr 1
  refine ex_cong fun q _ _ => ?_
  unfold rcJ qtl qsn
  by_cases e : ff (qH L B tw dy c q) 0 (lns L q) < lns L q
  · have e1 : qsd L B tw dy c q = dy q (ff (qH L B tw dy c q) 0 (lns L q)) := if_pos e
    rw [e1, decide_eq_true e]
    have e2 : sdA (qH L B tw dy) dy c q (lns L q) = dy q (ff (qH L B tw dy c q) 0 (lns L q)) := if_pos e
    rw [e2]; rfl
  · rw [decide_eq_false e, Bool.false_and, Bool.false_and]
end
