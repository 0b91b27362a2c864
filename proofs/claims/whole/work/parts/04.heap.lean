/-! The static heap: what the two object graphs hold behind their constructors. A thing is named (component, instance, row). -/
abbrev Id3 : Type := Nat × Nat × Nat
abbrev AV : Type := Int32 ⊕ (Int64 ⊕ Id3)
abbrev Mem : Type := Nat → Nat → Nat → Nat → Int32
abbrev PMem : Type := Nat → Nat → Nat → Nat → Nat
def nth {α : Type} (d : α) : List α → Nat → α
  | [], _ => d
  | a :: _, 0 => a
  | _ :: t, n + 1 => nth d t n
/-- kind (0 object, 1 int[], 2 byte[], 3 int[][], 4 String[], 5 long[]), instances, rows, length (9999: by its instance) -/
def compT : List (Nat × Nat × Nat × Nat) := [(0, 2, 1, 0), (0, 2, 1, 0), (0, 0, 1, 0), (0, 2, 1, 0), (0, 2, 1, 0), (0, 1, 1, 0), (0, 10, 1, 0), (0, 1, 1, 0), (0, 1, 1, 0), (1, 2, 1, 5), (1, 2, 1, 3), (3, 2, 1, 5), (1, 2, 5, 7), (3, 2, 1, 5), (1, 2, 5, 7), (3, 2, 1, 6), (1, 2, 6, 5), (3, 2, 1, 6), (1, 2, 6, 5), (3, 2, 1, 6), (1, 2, 6, 5), (1, 2, 1, 6), (3, 2, 1, 5), (1, 2, 5, 5), (1, 2, 1, 6), (1, 2, 1, 5), (1, 2, 1, 5), (3, 2, 1, 9), (1, 2, 9, 9), (3, 2, 1, 9), (1, 2, 9, 9), (3, 2, 1, 9), (1, 2, 9, 9), (1, 2, 1, 5), (1, 2, 1, 5), (1, 2, 1, 5), (1, 2, 1, 5), (3, 2, 1, 5), (1, 2, 5, 7), (3, 2, 1, 6), (1, 2, 6, 9), (1, 2, 1, 600), (1, 2, 1, 40), (1, 2, 1, 5), (1, 10, 1, 9999), (1, 10, 1, 9999), (1, 10, 1, 9999), (2, 1, 1, 600), (4, 1, 1, 3), (4, 1, 1, 5), (1, 1, 1, 14), (1, 1, 1, 162), (1, 1, 1, 10), (1, 1, 1, 10), (1, 1, 1, 10), (1, 1, 1, 10), (1, 1, 1, 70), (1, 1, 1, 108), (1, 1, 1, 1200), (1, 1, 1, 3), (1, 1, 1, 600), (1, 1, 1, 81), (1, 1, 1, 15), (1, 1, 1, 12), (1, 1, 1, 18), (1, 1, 1, 1800), (1, 1, 1, 5), (1, 1, 1, 64), (1, 1, 1, 35), (1, 1, 1, 35), (1, 1, 1, 25), (1, 1, 1, 30), (1, 1, 1, 30), (1, 1, 1, 30), (1, 1, 1, 30), (1, 1, 1, 6), (1, 1, 1, 6), (1, 1, 1, 8), (1, 1, 1, 8), (1, 1, 1, 8), (1, 1, 1, 45), (1, 1, 1, 1800), (1, 1, 1, 8), (1, 1, 1, 8), (1, 1, 1, 8), (1, 1, 1, 3), (5, 1, 1, 1)]
/-- a class's fields: kind (0 int, 1 boolean, 2 a thing of its own, 3 a thing that changes), component, and which instance -/
def fldT : List (List (Nat × Nat × Nat × Nat)) := [[(2, 9, 1, 0), (0, 0, 0, 0), (2, 6, 5, 0), (2, 6, 5, 1), (2, 6, 5, 2), (2, 6, 5, 3), (2, 6, 5, 4), (2, 10, 1, 0)], [(3, 3, 0, 0), (3, 0, 0, 0), (0, 0, 0, 0), (2, 11, 1, 0), (2, 13, 1, 0), (2, 15, 1, 0), (2, 17, 1, 0), (2, 19, 1, 0), (2, 21, 1, 0), (2, 22, 1, 0), (2, 24, 1, 0), (2, 25, 1, 0), (2, 26, 1, 0)], [(0, 0, 0, 0)], [(0, 0, 0, 0), (0, 0, 0, 0), (0, 0, 0, 0), (0, 0, 0, 0), (2, 27, 1, 0), (2, 29, 1, 0), (2, 31, 1, 0), (0, 0, 0, 0), (2, 33, 1, 0), (2, 34, 1, 0), (2, 35, 1, 0), (2, 36, 1, 0), (2, 37, 1, 0), (0, 0, 0, 0), (2, 39, 1, 0), (2, 4, 1, 0)], [(2, 41, 1, 0), (0, 0, 0, 0), (2, 42, 1, 0), (2, 43, 1, 0)], [(0, 0, 0, 0), (0, 0, 0, 0), (2, 47, 1, 0), (0, 0, 0, 0), (3, 3, 0, 0), (0, 0, 0, 0), (0, 0, 0, 0), (0, 0, 0, 0)], [(2, 44, 1, 0), (2, 45, 1, 0), (2, 46, 1, 0), (0, 0, 0, 0)], [(2, 47, 1, 0), (0, 0, 0, 0), (3, 3, 0, 0), (3, 3, 0, 0), (2, 5, 0, 0), (2, 0, 0, 0), (2, 0, 0, 1), (1, 0, 0, 0), (2, 1, 0, 0), (2, 1, 0, 1), (1, 0, 0, 0), (0, 0, 0, 0)], [(2, 48, 1, 0), (2, 49, 1, 0), (0, 0, 0, 0), (2, 50, 1, 0), (2, 51, 1, 0), (2, 52, 1, 0), (2, 53, 1, 0), (2, 54, 1, 0), (2, 55, 1, 0), (2, 56, 1, 0), (2, 57, 1, 0), (2, 58, 1, 0), (2, 59, 1, 0), (2, 60, 1, 0), (0, 0, 0, 0), (0, 0, 0, 0), (0, 0, 0, 0), (0, 0, 0, 0), (0, 0, 0, 0), (0, 0, 0, 0), (0, 0, 0, 0), (0, 0, 0, 0), (0, 0, 0, 0), (0, 0, 0, 0), (2, 61, 1, 0), (2, 62, 1, 0), (2, 63, 1, 0), (2, 64, 1, 0), (2, 65, 1, 0), (0, 0, 0, 0), (0, 0, 0, 0), (0, 0, 0, 0), (0, 0, 0, 0), (0, 0, 0, 0), (0, 0, 0, 0), (2, 66, 1, 0), (2, 67, 1, 0), (2, 68, 1, 0), (2, 69, 1, 0), (2, 70, 1, 0), (0, 0, 0, 0), (0, 0, 0, 0), (0, 0, 0, 0), (0, 0, 0, 0), (2, 71, 1, 0), (2, 72, 1, 0), (2, 73, 1, 0), (2, 74, 1, 0), (2, 75, 1, 0), (2, 76, 1, 0), (2, 77, 1, 0), (2, 78, 1, 0), (2, 79, 1, 0), (0, 0, 0, 0), (1, 0, 0, 0), (0, 0, 0, 0), (0, 0, 0, 0), (2, 80, 1, 0), (2, 81, 1, 0), (2, 82, 1, 0), (2, 83, 1, 0), (2, 84, 1, 0), (2, 85, 1, 0)]]
def cE (c : Nat) : Nat × Nat × Nat × Nat := nth (6, 0, 0, 0) compT c
def cK (c : Nat) : Nat := (cE c).1
def cN (c : Nat) : Nat := (cE c).2.1
def cR (c : Nat) : Nat := (cE c).2.2.1
def rowsLen (z : Nat) : Nat := if z % 5 = 3 then 40 else if z % 5 = 4 then 8 else 4
def cL (c z : Nat) : Nat := if (cE c).2.2.2 = 9999 then rowsLen z else (cE c).2.2.2
def fE (c j : Nat) : Nat × Nat × Nat × Nat := nth (6, 0, 0, 0) (nth [] fldT c) j
def fN (c : Nat) : Nat := (nth [] fldT c).length
def cS (c : Nat) : Nat := if c = 48 then 0 else 3
def ixz (a b z : Nat) : Nat := match a, b with
  | 1, 0 => z
  | 0, b => b
  | a, b => a * z + b
/-- a field's own thing -/
def rfv (c z j : Nat) : Id3 := ((fE c j).2.1, ixz (fE c j).2.2.1 (fE c j).2.2.2 z, 0)
def okI (d : Bool) (c z r : Nat) : Bool := if c = 2 then d && z == 0 && r == 0 else decide (z < cN c) && decide (r < cR c)
def CELLS : List Id3 := (List.range 90).flatMap (fun c => (List.range (cN c)).flatMap (fun z => (List.range (cR c)).map (fun r => (c, z, r))))
def LST (d : Bool) : List Id3 := CELLS ++ (if d then [(2, 0, 0)] else [])
def upd4 (I : Mem) (c z r i : Nat) (v : Int32) : Mem := fun c' z' r' i' => if c' = c ∧ z' = z ∧ r' = r ∧ i' = i then v else I c' z' r' i'
def updP (P : PMem) (c z r i v : Nat) : PMem := fun c' z' r' i' => if c' = c ∧ z' = z ∧ r' = r ∧ i' = i then v else P c' z' r' i'
def cv (ad : Id3 → Nat) : AV → Value
  | .inl x => .int x
  | .inr (.inl y) => .long y
  | .inr (.inr i) => .ref (ad i)
def fv (ad : Id3 → Nat) (f : Nat → Int32) (g : Nat → Nat) (c z j : Nat) : Value := match (fE c j).1 with
  | 2 => .ref (ad (rfv c z j))
  | 3 => .ref (ad ((fE c j).2.1, g j, 0))
  | _ => .int (f j)
def ceF (ad : Id3 → Nat) (cy : Nat → ClassId) (f : Nat → Int32) (g : Nat → Nat) (O : Nat → Int64) (i : Id3) : va_E := match cK i.1 with
  | 0 => .inr (i.1, (List.range (fN i.1)).map (fv ad f g i.1 i.2.1))
  | 1 => .inl (cy 0, cL i.1 i.2.1, .inl f)
  | 2 => .inl (cy 1, cL i.1 i.2.1, .inl f)
  | 3 => .inl (cy 2, cL i.1 i.2.1, .inr (.inr (.inr (.inr (fun k => some (ad (i.1 + 1, i.2.1, k)))))))
  | 4 => .inl (cy 3, cL i.1 i.2.1, .inr (.inr (.inr (.inr (fun k => some (ad (90, cS i.1 + k, 0)))))))
  | _ => .inl (cy 4, cL i.1 i.2.1, .inr (.inl O))
def ce (ad : Id3 → Nat) (cy : Nat → ClassId) (I : Mem) (P : PMem) (O : Nat → Int64) (i : Id3) : va_E := ceF ad cy (I i.1 i.2.1 i.2.2) (P i.1 i.2.1 i.2.2) O i
def tys (cy : Nat → ClassId) : List (ClassId × FieldType) := [(cy 0, .int), (cy 1, .byte), (cy 2, .array .int), (cy 3, .object "java/lang/String"), (cy 4, .long)]
def wsl (ad : Id3 → Nat) (cy : Nat → ClassId) (I : Mem) (P : PMem) (O : Nat → Int64) (d : Bool) : va_W := (LST d).map (fun i => (ad i, ce ad cy I P O i))
abbrev classes : List vw_C := [(RX0, TX0, 8), (RX1, TX1, 13), (RX2, TX2, 1), (RX3, TX3, 16), (RX4, TX4, 4), (RX5, TX5, 8), (RX6, TX6, 4), (RX7, TX7, 12), (RX8, TX8, 63)]
def GW : List Cond := lw_tbl.filter goodWord
theorem nth_ge {α : Type} (d : α) : ∀ (l : List α) (n : Nat), l.length ≤ n → nth d l n = d
  | [], _, _ => rfl
  | a :: t, 0, h => by simp at h
  | a :: t, n + 1, h => nth_ge d t n (by simpa using h)
theorem cN_lt {c z : Nat} (h : z < cN c) : c < 90 := by
  rcases Nat.lt_or_ge c 90 with q | q
  · exact q
  · have : cE c = (6, 0, 0, 0) := nth_ge _ _ _ (Nat.le_trans (show compT.length ≤ 90 by decide) q)
    unfold cN at h
    rw [this] at h
    exact absurd h (Nat.not_lt_zero _)
theorem mem_LST {d : Bool} {c z r : Nat} (h : okI d c z r = true) : (c, z, r) ∈ LST d := by
  unfold okI at h
  unfold LST
  by_cases hc : c = 2
  · subst hc
    simp at h
    obtain ⟨⟨rfl, rfl⟩, rfl⟩ := h
    simp
  · rw [if_neg hc] at h
    simp at h
    refine List.mem_append_left _ ?_
    unfold CELLS
    refine List.mem_flatMap.mpr ⟨c, List.mem_range.mpr (cN_lt h.1), ?_⟩
    refine List.mem_flatMap.mpr ⟨z, List.mem_range.mpr h.1, ?_⟩
    exact List.mem_map.mpr ⟨r, List.mem_range.mpr h.2, rfl⟩
theorem wsl_get {ad : Id3 → Nat} {cy : Nat → ClassId} {I : Mem} {P : PMem} {O : Nat → Int64} {d : Bool} {i : Id3} (h : i ∈ LST d) : ∃ k : Nat, (LST d)[k]? = some i ∧ (wsl ad cy I P O d)[k]? = some (ad i, ce ad cy I P O i) := by
  obtain ⟨k, hk⟩ := List.getElem?_of_mem h
  refine ⟨k, hk, ?_⟩
  unfold wsl
  rw [List.getElem?_map, hk]
  rfl
theorem wsl_set {ad : Id3 → Nat} {cy : Nat → ClassId} {I I' : Mem} {P P' : PMem} {O O' : Nat → Int64} {d : Bool} {i : Id3} {k : Nat} {A : Nat → Prop} (hk : (LST d)[k]? = some i) (hD : va_D A (wsl ad cy I P O d))
    (hq : ∀ i', i' ∈ LST d → i' ≠ i → ce ad cy I' P' O' i' = ce ad cy I P O i') : (wsl ad cy I P O d).set k (ad i, ce ad cy I' P' O' i) = wsl ad cy I' P' O' d := by
  have hlen : k < (LST d).length := (List.getElem?_eq_some_iff.mp hk).1
  apply List.ext_getElem?
  intro j
  by_cases hj : j = k
  · subst hj
    rw [List.getElem?_set_self (by unfold wsl; rw [List.length_map]; exact hlen)]
    unfold wsl
    rw [List.getElem?_map, hk]
    rfl
  · rw [List.getElem?_set_ne (fun q => hj q.symm)]
    unfold wsl
    rw [List.getElem?_map, List.getElem?_map]
    cases hx : (LST d)[j]? with
    | none => rfl
    | some i' =>
      have hne : i' ≠ i := by
        intro e
        subst e
        refine hj (hD.1 j k (ad i', ce ad cy I P O i') (ad i', ce ad cy I P O i') ?_ ?_ rfl)
        · unfold wsl
          rw [List.getElem?_map, hx]
          rfl
        · unfold wsl
          rw [List.getElem?_map, hk]
          rfl
      show some (ad i', ce ad cy I P O i') = some (ad i', ce ad cy I' P' O' i')
      rw [hq i' (List.mem_of_getElem? hx) hne]
theorem iX0 : ∀ w ∈ wsX00, w ∈ GW := by decide +kernel
theorem kX0 : classes[0]? = some (RX0, TX0, 8) := rfl
theorem iX1 : ∀ w ∈ wsX10, w ∈ GW := by decide +kernel
theorem kX1 : classes[1]? = some (RX1, TX1, 13) := rfl
theorem iX2 : ∀ w ∈ wsX20, w ∈ GW := by decide +kernel
theorem kX2 : classes[2]? = some (RX2, TX2, 1) := rfl
theorem iX3 : ∀ w ∈ wsX30, w ∈ GW := by decide +kernel
theorem kX3 : classes[3]? = some (RX3, TX3, 16) := rfl
theorem iX4 : ∀ w ∈ wsX40, w ∈ GW := by decide +kernel
theorem kX4 : classes[4]? = some (RX4, TX4, 4) := rfl
theorem iX5 : ∀ w ∈ wsX50, w ∈ GW := by decide +kernel
theorem kX5 : classes[5]? = some (RX5, TX5, 8) := rfl
theorem iX6 : ∀ w ∈ wsX60, w ∈ GW := by decide +kernel
theorem kX6 : classes[6]? = some (RX6, TX6, 4) := rfl
theorem iX7 : ∀ w ∈ wsX70, w ∈ GW := by decide +kernel
theorem kX7 : classes[7]? = some (RX7, TX7, 12) := rfl
theorem iX8 : ∀ w ∈ wsX80, w ∈ GW := by decide +kernel
theorem kX8 : classes[8]? = some (RX8, TX8, 63) := rfl
