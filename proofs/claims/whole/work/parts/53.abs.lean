/-! what is said of cases, in closed form -/
theorem Fr.gc {S : List (Nat × Nat)} {I I' : Mem} (h : Fr S I I') {c : Nat} (hc : ∀ z, ¬ (c, z) ∈ S) : I' c = I c := funext fun z => h.g (hc z)
theorem ff_snoc (p : Nat → Bool) : ∀ m k, ff p k (m + 1) = if ff p k m < k + m then ff p k m else if p (k + m) then k + m else k + m + 1
  | 0, k => by simp [ff]
  | m + 1, k => by
    rw [ff, ff_snoc p m (k + 1), ff]
    by_cases e : p k = true
    · simp [e]
    · have : k + (m + 1) = k + 1 + m := by omega
      simp [e, this]
theorem ff_ext (p : Nat → Bool) {n m : Nat} (h : ff p 0 n < n) (hm : n ≤ m) : ff p 0 m = ff p 0 n :=
  ff_is p (Nat.zero_le _) (by omega) (ff_yes p n 0 (by omega)) (fun i a b => ff_no p n 0 i a b)
/-- the day, the town, the verdict, of what was said within the first n stops -/
def sdA (H : Nat → Nat → Nat → Bool) (dy : Nat → Nat → Int32) (c j n : Nat) : Int32 := if ff (H c j) 0 n < n then dy j (ff (H c j) 0 n) else -1
def stA (H : Nat → Nat → Nat → Bool) (tw : Nat → Nat → Nat) (c j n : Nat) : Int32 := if ff (H c j) 0 n < n then nI (tw j (ff (H c j) 0 n)) else -1
def sgA (H : Nat → Nat → Nat → Bool) (G : Nat → Nat → Bool) (c j n : Nat) : Int32 := if ff (H c j) 0 n < n then bI (G c j) else -1
def bfr (H : Nat → Nat → Nat → Bool) (dy : Nat → Nat → Int32) (J c : Nat) (m : Nat → Nat) (d : Int32) : Nat :=
  cn (fun j => decide (sdA H dy c j (m j) ≠ -1) && decide (sdA H dy c j (m j) < d)) 0 J
/-- the verdict when so many spoke before -/
def vdc (cd : Nat → Nat) (len : Nat) (pf : Nat → Nat → Int32) (hs kd : Nat → Int32) (c j t : Nat) (d : Int32) (b : Nat) : Bool :=
  (decide (0 < lawv cd len (pf c t) (hs j) d (nI t) (nI b))) != decide (kd j = 2)
def Gv (H : Nat → Nat → Nat → Bool) (tw : Nat → Nat → Nat) (dy : Nat → Nat → Int32) (cd : Nat → Nat) (len : Nat) (pf : Nat → Nat → Int32) (hs kd : Nat → Int32) (J : Nat) (ns : Nat → Nat) (c j : Nat) : Bool :=
  vdc cd len pf hs kd c j (tw j (ff (H c j) 0 (ns j))) (dy j (ff (H c j) 0 (ns j))) (bfr H dy J c ns (dy j (ff (H c j) 0 (ns j))))
def inc (m : Nat → Nat) (j : Nat) : Nat → Nat := fun k => if k = j then m j + 1 else m k
theorem inc_at {m : Nat → Nat} {j : Nat} : inc m j j = m j + 1 := if_pos rfl
theorem inc_ne {m : Nat → Nat} {j k : Nat} (h : k ≠ j) : inc m j k = m k := if_neg h
/-- days of a judge rise, and are at least 0 and at most 114 -/
def Days (dy : Nat → Nat → Int32) (J : Nat) (ns : Nat → Nat) : Prop :=
  (∀ j i, j < J → i < ns j → 0 ≤ (dy j i).toInt ∧ (dy j i).toInt ≤ 114) ∧ ∀ j i i', j < J → i < i' → i' < ns j → (dy j i).toInt < (dy j i').toInt
section
variable {H : Nat → Nat → Nat → Bool} {tw : Nat → Nat → Nat} {dy : Nat → Nat → Int32} {J : Nat} {ns m : Nat → Nat}
theorem sdA_step {c j : Nat} : sdA H dy c j (m j + 1) = if ff (H c j) 0 (m j) < m j then sdA H dy c j (m j) else if H c j (m j) then dy j (m j) else -1 := by
  unfold sdA
  rw [ff_snoc, Nat.zero_add]
  have b := ff_b (H c j) (m j) 0
  by_cases e : ff (H c j) 0 (m j) < m j
  · simp only [e, if_true]; rw [if_pos (by omega)]
  · simp only [e, if_false]
    by_cases e2 : H c j (m j) = true
    · simp [e2]
    · simp [e2]
theorem stA_step {c j : Nat} : stA H tw c j (m j + 1) = if ff (H c j) 0 (m j) < m j then stA H tw c j (m j) else if H c j (m j) then nI (tw j (m j)) else -1 := by
  unfold stA
  rw [ff_snoc, Nat.zero_add]
  have b := ff_b (H c j) (m j) 0
  by_cases e : ff (H c j) 0 (m j) < m j
  · simp only [e, if_true]; rw [if_pos (by omega)]
  · simp only [e, if_false]
    by_cases e2 : H c j (m j) = true
    · simp [e2]
    · simp [e2]
theorem sgA_step {G : Nat → Nat → Bool} {c j : Nat} : sgA H G c j (m j + 1) = if ff (H c j) 0 (m j) < m j then sgA H G c j (m j) else if H c j (m j) then bI (G c j) else -1 := by
  unfold sgA
  rw [ff_snoc, Nat.zero_add]
  have b := ff_b (H c j) (m j) 0
  by_cases e : ff (H c j) 0 (m j) < m j
  · simp only [e, if_true]; rw [if_pos (by omega)]
  · simp only [e, if_false]
    by_cases e2 : H c j (m j) = true
    · simp [e2]
    · simp [e2]
theorem sdA_no (hd : Days dy J ns) {c j n : Nat} (hj : j < J) (hn : n ≤ ns j) : sdA H dy c j n = -1 ↔ ¬ ff (H c j) 0 n < n := by
  unfold sdA
  by_cases e : ff (H c j) 0 n < n
  · rw [if_pos e]
    constructor
    · intro q
      have := (hd.1 j _ hj (by omega : ff (H c j) 0 n < ns j)).1
      rw [q] at this
      exact absurd this (by decide)
    · intro q; exact absurd e q
  · rw [if_neg e]; exact ⟨fun _ => e, fun _ => rfl⟩
theorem bfr_ord (hd : Days dy J ns) (ho : ∀ j, j < J → m j ≤ ns j) {c j : Nat} (hmin : ∀ j' i', j' < J → m j' ≤ i' → i' < ns j' → dy j (m j) ≤ dy j' i') : bfr H dy J c m (dy j (m j)) = bfr H dy J c ns (dy j (m j)) := by
  unfold bfr
  refine cn_cong fun j' _ hj' => ?_
  rw [Nat.zero_add] at hj'
  have hm := ho j' hj'
  by_cases e : ff (H c j') 0 (m j') < m j'
  · have : sdA H dy c j' (ns j') = sdA H dy c j' (m j') := by
      unfold sdA
      rw [ff_ext (H c j') e hm, if_pos e, if_pos (by omega)]
    rw [this]
  · have h1 : sdA H dy c j' (m j') = -1 := (sdA_no hd hj' hm).mpr e
    rw [h1]
    have h2 : (decide ((-1 : Int32) ≠ -1) && decide ((-1 : Int32) < dy j (m j))) = false := by simp
    rw [h2]
    symm
    by_cases e2 : ff (H c j') 0 (ns j') < ns j'
    · have hge : m j' ≤ ff (H c j') 0 (ns j') := by
        by_cases q : ff (H c j') 0 (ns j') < m j'
        · exfalso
          have y := ff_yes (H c j') (ns j') 0 (by omega)
          have b := ff_b (H c j') (m j') 0
          have := ff_no (H c j') (m j') 0 (ff (H c j') 0 (ns j')) (by omega) (by omega)
          rw [y] at this; cases this
        · omega
      have key : dy j (m j) ≤ dy j' (ff (H c j') 0 (ns j')) := hmin j' _ hj' hge e2
      have : sdA H dy c j' (ns j') = dy j' (ff (H c j') 0 (ns j')) := if_pos e2
      rw [this, Bool.and_eq_false_iff]
      right
      exact decide_eq_false (fun q => (fa_of_lt q).2.1 key)
    · have : sdA H dy c j' (ns j') = -1 := if_neg e2
      rw [this]; simp
/-- the verdict that is found at a first hearing is the verdict -/
theorem Gv_ok {cd : Nat → Nat} {len : Nat} {pf : Nat → Nat → Int32} {hs kd : Nat → Int32} (hd : Days dy J ns) (ho : ∀ j, j < J → m j ≤ ns j) {c j : Nat} (hi : m j < ns j) (hmin : ∀ j' i', j' < J → m j' ≤ i' → i' < ns j' → dy j (m j) ≤ dy j' i')
    (h1 : ¬ ff (H c j) 0 (m j) < m j) (h2 : H c j (m j) = true) : vdc cd len pf hs kd c j (tw j (m j)) (dy j (m j)) (bfr H dy J c m (dy j (m j))) = Gv H tw dy cd len pf hs kd J ns c j := by
  have b := ff_b (H c j) (m j) 0
  have e : ff (H c j) 0 (ns j) = m j := ff_is (H c j) (Nat.zero_le _) (by omega) h2 (fun i' a q => ff_no (H c j) (m j) 0 i' a (by omega))
  unfold Gv
  rw [e, bfr_ord hd ho hmin]
end
