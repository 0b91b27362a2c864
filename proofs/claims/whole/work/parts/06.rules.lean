theorem GW_at {w : Cond} (i : Nat) (h : lw_tbl[i]? = some w) (hg : goodWord w = true) : w ∈ GW := List.mem_filter.mpr ⟨List.mem_of_getElem? h, hg⟩
def CLf (c : Nat) (C : String) (T : u_T) (N : Nat) (ty0 : Nat → FieldType) : Prop := classes[c]? = some (C, T, N) ∧ (∀ w ∈ u_ws C T N, w ∈ GW) ∧ (∀ k, k < N → parseFieldDescriptor (T k).2.2.1 = some (ty0 k)) ∧ (∀ a, a < N → ∀ b, b < N → a ≠ b → (T a).2.1 ≠ (T b).2.1) ∧ cK c = 0 ∧ fN c = N
/-- a field by its place in a class's constants: class and slot -/
def FLk (own : String) (idx c j : Nat) : Prop := ∃ (C : String) (T : u_T) (N : Nat) (ty0 : Nat → FieldType), CLf c C T N ty0 ∧ j < N ∧ Cond.fieldLink own idx (T j).1 (T j).2.1 (T j).2.2.1 ∈ GW ∧ ((fE c j).1 = 0 → ty0 j = .int ∧ (T j).2.2.2 = false) ∧ ((fE c j).1 = 1 → ty0 j = .boolean ∧ (T j).2.2.2 = false) ∧ ((fE c j).1 = 3 → (∃ k, ty0 j = .object k) ∧ (T j).2.2.2 = false)
def inb (i : Int32) (n : Nat) : Bool := decide (0 ≤ i.toInt ∧ i.toInt < n)
theorem inb_in {i : Int32} {n : Nat} (h : inb i n = true) : vp_in i n := vp_in_iff.mpr (of_decide_eq_true h)
theorem inb_lt {i : Int32} {n : Nat} (h : inb i n = true) : i.toNatClampNeg < n := Nat.not_le.mp fun q => inb_in h (Or.inr q)
theorem map_range_set {N j : Nat} {F F' : Nat → Value} {v : Value} (hj : j < N) (h1 : F' j = v) (h2 : ∀ k, k ≠ j → F' k = F k) : ((List.range N).map F).set j v = (List.range N).map F' := by
  apply List.ext_getElem?
  intro k
  by_cases hk : k = j
  · subst hk
    rw [List.getElem?_set_self (by simpa using hj)]
    simp [hj, h1]
  · rw [List.getElem?_set_ne (fun q => hk q.symm)]
    rw [List.getElem?_map, List.getElem?_map]
    by_cases hkN : k < N
    · simp [List.getElem?_range, hkN, h2 k hk]
    · simp [List.getElem?_range, hkN]
theorem upd4_row (I : Mem) (c z r i : Nat) (v : Int32) : upd4 I c z r i v c z r = upd (I c z r) i v := by
  funext j
  simp [upd4, upd]
theorem upd4_off {I : Mem} {c z r i : Nat} {v : Int32} {i' : Id3} (h : i' ≠ (c, z, r)) : upd4 I c z r i v i'.1 i'.2.1 i'.2.2 = I i'.1 i'.2.1 i'.2.2 := by
  funext j
  unfold upd4
  rw [if_neg]
  rintro ⟨h1, h2, h3, -⟩
  exact h (by rw [← h1, ← h2, ← h3])
theorem updP_off {P : PMem} {c z r i v : Nat} {i' : Id3} (h : i' ≠ (c, z, r)) : updP P c z r i v i'.1 i'.2.1 i'.2.2 = P i'.1 i'.2.1 i'.2.2 := by
  funext j
  unfold updP
  rw [if_neg]
  rintro ⟨h1, h2, h3, -⟩
  exact h (by rw [← h1, ← h2, ← h3])
theorem ce_off {ad : Id3 → Nat} {cy : Nat → ClassId} {I : Mem} {P : PMem} {O : Nat → Int64} {c z r i : Nat} {v : Int32} {i' : Id3} (h : i' ≠ (c, z, r)) : ce ad cy (upd4 I c z r i v) P O i' = ce ad cy I P O i' := by
  unfold ce
  rw [upd4_off h]
theorem ce_offP {ad : Id3 → Nat} {cy : Nat → ClassId} {I : Mem} {P : PMem} {O : Nat → Int64} {c z r i v : Nat} {i' : Id3} (h : i' ≠ (c, z, r)) : ce ad cy I (updP P c z r i v) O i' = ce ad cy I P O i' := by
  unfold ce
  rw [updP_off h]
theorem LST_long : ∀ i ∈ LST true, i ≠ (86, 0, 0) → cK i.1 ≤ 4 := by decide +kernel
theorem LST_sub {d : Bool} {i : Id3} (h : i ∈ LST d) : i ∈ LST true := by
  cases d
  · unfold LST at h ⊢
    simp at h
    simp [h]
  · exact h
theorem ce_offO {ad : Id3 → Nat} {cy : Nat → ClassId} {I : Mem} {P : PMem} {O O' : Nat → Int64} {d : Bool} {i' : Id3} (hm : i' ∈ LST d) (h : i' ≠ (86, 0, 0)) : ce ad cy I P O' i' = ce ad cy I P O i' := by
  have := LST_long i' (LST_sub hm) h
  have h5 : cK i'.1 = 0 ∨ cK i'.1 = 1 ∨ cK i'.1 = 2 ∨ cK i'.1 = 3 ∨ cK i'.1 = 4 := by omega
  rcases h5 with h5 | h5 | h5 | h5 | h5 <;> simp only [ce, ceF, h5]
theorem ce_obj {ad : Id3 → Nat} {cy : Nat → ClassId} {I : Mem} {P : PMem} {O : Nat → Int64} {c z r : Nat} (h : cK c = 0) : ce ad cy I P O (c, z, r) = .inr (c, (List.range (fN c)).map (fv ad (I c z r) (P c z r) c z)) := by
  simp only [ce, ceF, h]
theorem ce_ia {ad : Id3 → Nat} {cy : Nat → ClassId} {I : Mem} {P : PMem} {O : Nat → Int64} {c z r : Nat} (h : cK c = 1) : ce ad cy I P O (c, z, r) = .inl (cy 0, cL c z, .inl (I c z r)) := by
  simp only [ce, ceF, h]
theorem ce_ba {ad : Id3 → Nat} {cy : Nat → ClassId} {I : Mem} {P : PMem} {O : Nat → Int64} {c z r : Nat} (h : cK c = 2) : ce ad cy I P O (c, z, r) = .inl (cy 1, cL c z, .inl (I c z r)) := by
  simp only [ce, ceF, h]
theorem ce_ga {ad : Id3 → Nat} {cy : Nat → ClassId} {I : Mem} {P : PMem} {O : Nat → Int64} {c z r : Nat} (h : cK c = 3) : ce ad cy I P O (c, z, r) = .inl (cy 2, cL c z, .inr (.inr (.inr (.inr (fun k => some (ad (c + 1, z, k))))))) := by
  simp only [ce, ceF, h]
theorem ce_sa {ad : Id3 → Nat} {cy : Nat → ClassId} {I : Mem} {P : PMem} {O : Nat → Int64} {c z r : Nat} (h : cK c = 4) : ce ad cy I P O (c, z, r) = .inl (cy 3, cL c z, .inr (.inr (.inr (.inr (fun k => some (ad (90, cS c + k, 0))))))) := by
  simp only [ce, ceF, h]
theorem ce_la {ad : Id3 → Nat} {cy : Nat → ClassId} {I : Mem} {P : PMem} {O : Nat → Int64} {c z r : Nat} (h : cK c = 5) : ce ad cy I P O (c, z, r) = .inl (cy 4, cL c z, .inr (.inl O)) := by
  simp only [ce, ceF, h]
section Rules2
variable {X : CX} {cc : ByteArray} {own : String} {mL : Nat} {ret : Option FieldType} {d nm pc : Nat} {lo : List (Option AV)} {st : List AV} {I : Mem} {P : PMem} {O : Nat → Int64} {D : Bool} {n : Nat} {Q : State → Prop}
theorem h_geti {idx c j z : Nat}  (hf : FLk own idx c j) (hk : (fE c j).1 = 0 ∨ (fE c j).1 = 1) (hdg : decode cc pc = .ok (.getfield idx, 3)) (ho : okI D c z 0 = true) (k : Here X cc own mL ret d nm (pc + 3) lo (.inl (I c z 0 j) :: st) I P O D n Q) : Here X cc own mL ret d nm pc lo (.inr (.inr (c, z, 0)) :: st) I P O D n Q := by
  obtain ⟨p, l, e, R, s, m, args, below, meth, co, Dg, cy, N0, n0, ad0, sv, hh⟩ := X
  obtain ⟨C0, T, N, ty0, ⟨hc, hin, hty, hnm, hK0, hN⟩, hj, hw, -⟩ := hf
  refine ⟨k.1, fun C ad H locs ls hR => ?_⟩
  obtain ⟨q0, -, hq0⟩ := wsl_get (ad := ad) (cy := cy) (I := I) (P := P) (O := O) (mem_LST ho)
  rw [ce_obj hK0] at hq0
  refine va_get C.1 C.2.1 C.2.2.2.2.2.2.1 hin C.2.2.2.2.2.1 C.2.2.2.2.2.2.2.1 hR.1 q0 hq0 hc j hj (C.2.2.2.2.2.2.1 _ hw) (fun x h => h) (v := cv ad (.inl (I c z 0 j))) ?_ hdg (k.2 C ad H locs ls hR)
  rw [List.getElem?_map, List.getElem?_range (by rw [hN]; exact hj)]
  show some (fv ad (I c z 0) (P c z 0) c z j) = _
  rcases hk with hk | hk <;> simp only [fv, hk, cv]
theorem h_getS {idx c j z : Nat} (i : Id3) (hf : FLk own idx c j) (hk : (fE c j).1 = 2 ∧ rfv c z j = i) (hdg : decode cc pc = .ok (.getfield idx, 3)) (ho : okI D c z 0 = true) (k : Here X cc own mL ret d nm (pc + 3) lo (.inr (.inr i) :: st) I P O D n Q) : Here X cc own mL ret d nm pc lo (.inr (.inr (c, z, 0)) :: st) I P O D n Q := by
  obtain ⟨p, l, e, R, s, m, args, below, meth, co, Dg, cy, N0, n0, ad0, sv, hh⟩ := X
  obtain ⟨C0, T, N, ty0, ⟨hc, hin, hty, hnm, hK0, hN⟩, hj, hw, -⟩ := hf
  refine ⟨k.1, fun C ad H locs ls hR => ?_⟩
  obtain ⟨q0, -, hq0⟩ := wsl_get (ad := ad) (cy := cy) (I := I) (P := P) (O := O) (mem_LST ho)
  rw [ce_obj hK0] at hq0
  refine va_get C.1 C.2.1 C.2.2.2.2.2.2.1 hin C.2.2.2.2.2.1 C.2.2.2.2.2.2.2.1 hR.1 q0 hq0 hc j hj (C.2.2.2.2.2.2.1 _ hw) (fun x h => h) (v := cv ad (.inr (.inr i))) ?_ hdg (k.2 C ad H locs ls hR)
  rw [List.getElem?_map, List.getElem?_range (by rw [hN]; exact hj)]
  show some (fv ad (I c z 0) (P c z 0) c z j) = _
  rw [← hk.2]; simp only [fv, hk.1, cv]
theorem h_getP {idx c j z : Nat} (t : Nat) (hf : FLk own idx c j) (hk : (fE c j).1 = 3 ∧ (fE c j).2.1 = t) (hdg : decode cc pc = .ok (.getfield idx, 3)) (ho : okI D c z 0 = true) (k : Here X cc own mL ret d nm (pc + 3) lo (.inr (.inr (t, P c z 0 j, 0)) :: st) I P O D n Q) : Here X cc own mL ret d nm pc lo (.inr (.inr (c, z, 0)) :: st) I P O D n Q := by
  obtain ⟨p, l, e, R, s, m, args, below, meth, co, Dg, cy, N0, n0, ad0, sv, hh⟩ := X
  obtain ⟨C0, T, N, ty0, ⟨hc, hin, hty, hnm, hK0, hN⟩, hj, hw, -⟩ := hf
  refine ⟨k.1, fun C ad H locs ls hR => ?_⟩
  obtain ⟨q0, -, hq0⟩ := wsl_get (ad := ad) (cy := cy) (I := I) (P := P) (O := O) (mem_LST ho)
  rw [ce_obj hK0] at hq0
  refine va_get C.1 C.2.1 C.2.2.2.2.2.2.1 hin C.2.2.2.2.2.1 C.2.2.2.2.2.2.2.1 hR.1 q0 hq0 hc j hj (C.2.2.2.2.2.2.1 _ hw) (fun x h => h) (v := cv ad (.inr (.inr (t, P c z 0 j, 0)))) ?_ hdg (k.2 C ad H locs ls hR)
  rw [List.getElem?_map, List.getElem?_range (by rw [hN]; exact hj)]
  show some (fv ad (I c z 0) (P c z 0) c z j) = _
  rw [← hk.2]; simp only [fv, hk.1, cv]
theorem h_puti {idx c j z : Nat} {v : Int32} (hf : FLk own idx c j) (hk : (fE c j).1 = 0) (hdg : decode cc pc = .ok (.putfield idx, 3)) (ho : okI D c z 0 = true) (k : Here X cc own mL ret d nm (pc + 3) lo st (upd4 I c z 0 j v) (P) O D n Q) : Here X cc own mL ret d nm pc lo (.inl v :: .inr (.inr (c, z, 0)) :: st) I P O D n Q := by
  obtain ⟨p, l, e, R, s, m, args, below, meth, co, Dg, cy, N0, n0, ad0, sv, hh⟩ := X
  obtain ⟨C0, T, N, ty0, ⟨hc, hin, hty, hnm, hK0, hN⟩, hj, hw, hi0, hi1, hi3⟩ := hf
  refine ⟨k.1, fun C ad H locs ls hR => ?_⟩
  obtain ⟨q0, hl0, hq0⟩ := wsl_get (ad := ad) (cy := cy) (I := I) (P := P) (O := O) (mem_LST ho)
  have hq1 := hq0
  rw [ce_obj hK0] at hq1
  refine va_put C.1 C.2.1 C.2.2.2.2.2.2.1 hin ty0 hty hnm C.2.2.2.2.2.1 C.2.2.2.2.2.2.2.1 hR.1 hR.2.1 hR.2.2.1 q0 hq1 hc j hj (C.2.2.2.2.2.2.1 _ hw) (fun x h => h) (hi0 hk).2 (ty := .int) (by rw [hty j hj, (hi0 hk).1]) rfl rfl (by rw [List.length_map, List.length_range, hN]; exact hj) hdg (fun H1 locs1 hP1 hD1 hS1 => ?_)
  have he : (wsl ad cy I P O D).set q0 (ad (c, z, 0), .inr (c, ((List.range (fN c)).map (fv ad (I c z 0) (P c z 0) c z)).set j (cv ad (.inl v)))) = wsl ad cy (upd4 I c z 0 j v) (P) O D := by
    rw [map_range_set (F' := fv ad ((upd4 I c z 0 j v) c z 0) ((P) c z 0) c z) (by rw [hN]; exact hj) (by simp [fv, hk, cv, upd4]) (fun k' hk' => by simp only [fv]; split <;> simp [upd4, hk']), ← ce_obj (ad := ad) (cy := cy) (O := O) hK0]
    exact wsl_set hl0 hR.2.1 (fun i' _ h' => ce_off h')
  rw [he] at hP1 hD1
  exact k.2 C ad H1 locs1 ls ⟨hP1, hD1, hS1, hR.2.2.2⟩
theorem h_putz {idx c j z : Nat} {v : Int32} (hf : FLk own idx c j) (hk : (fE c j).1 = 1 ∧ (v = 0 ∨ v = 1)) (hdg : decode cc pc = .ok (.putfield idx, 3)) (ho : okI D c z 0 = true) (k : Here X cc own mL ret d nm (pc + 3) lo st (upd4 I c z 0 j v) (P) O D n Q) : Here X cc own mL ret d nm pc lo (.inl v :: .inr (.inr (c, z, 0)) :: st) I P O D n Q := by
  obtain ⟨p, l, e, R, s, m, args, below, meth, co, Dg, cy, N0, n0, ad0, sv, hh⟩ := X
  obtain ⟨C0, T, N, ty0, ⟨hc, hin, hty, hnm, hK0, hN⟩, hj, hw, hi0, hi1, hi3⟩ := hf
  refine ⟨k.1, fun C ad H locs ls hR => ?_⟩
  obtain ⟨q0, hl0, hq0⟩ := wsl_get (ad := ad) (cy := cy) (I := I) (P := P) (O := O) (mem_LST ho)
  have hq1 := hq0
  rw [ce_obj hK0] at hq1
  refine va_put C.1 C.2.1 C.2.2.2.2.2.2.1 hin ty0 hty hnm C.2.2.2.2.2.1 C.2.2.2.2.2.2.2.1 hR.1 hR.2.1 hR.2.2.1 q0 hq1 hc j hj (C.2.2.2.2.2.2.1 _ hw) (fun x h => h) (hi1 hk.1).2 (ty := .boolean) (by rw [hty j hj, (hi1 hk.1).1]) (by rcases hk.2 with rfl | rfl <;> rfl) (by rcases hk.2 with rfl | rfl <;> rfl) (by rw [List.length_map, List.length_range, hN]; exact hj) hdg (fun H1 locs1 hP1 hD1 hS1 => ?_)
  have he : (wsl ad cy I P O D).set q0 (ad (c, z, 0), .inr (c, ((List.range (fN c)).map (fv ad (I c z 0) (P c z 0) c z)).set j (cv ad (.inl v)))) = wsl ad cy (upd4 I c z 0 j v) (P) O D := by
    rw [map_range_set (F' := fv ad ((upd4 I c z 0 j v) c z 0) ((P) c z 0) c z) (by rw [hN]; exact hj) (by simp [fv, hk.1, cv, upd4]) (fun k' hk' => by simp only [fv]; split <;> simp [upd4, hk']), ← ce_obj (ad := ad) (cy := cy) (O := O) hK0]
    exact wsl_set hl0 hR.2.1 (fun i' _ h' => ce_off h')
  rw [he] at hP1 hD1
  exact k.2 C ad H1 locs1 ls ⟨hP1, hD1, hS1, hR.2.2.2⟩
theorem h_putP {idx c j z : Nat} {t w : Nat} (hf : FLk own idx c j) (hk : (fE c j).1 = 3 ∧ (fE c j).2.1 = t) (hdg : decode cc pc = .ok (.putfield idx, 3)) (ho : okI D c z 0 = true) (k : Here X cc own mL ret d nm (pc + 3) lo st (I) (updP P c z 0 j w) O D n Q) : Here X cc own mL ret d nm pc lo (.inr (.inr (t, w, 0)) :: .inr (.inr (c, z, 0)) :: st) I P O D n Q := by
  obtain ⟨p, l, e, R, s, m, args, below, meth, co, Dg, cy, N0, n0, ad0, sv, hh⟩ := X
  obtain ⟨C0, T, N, ty0, ⟨hc, hin, hty, hnm, hK0, hN⟩, hj, hw, hi0, hi1, hi3⟩ := hf
  refine ⟨k.1, fun C ad H locs ls hR => ?_⟩
  obtain ⟨q0, hl0, hq0⟩ := wsl_get (ad := ad) (cy := cy) (I := I) (P := P) (O := O) (mem_LST ho)
  have hq1 := hq0
  rw [ce_obj hK0] at hq1
  obtain ⟨⟨kn, hkn⟩, hfin⟩ := hi3 hk.1
  refine va_put C.1 C.2.1 C.2.2.2.2.2.2.1 hin ty0 hty hnm C.2.2.2.2.2.1 C.2.2.2.2.2.2.2.1 hR.1 hR.2.1 hR.2.2.1 q0 hq1 hc j hj (C.2.2.2.2.2.2.1 _ hw) (fun x h => h) hfin (ty := .object kn) (by rw [hty j hj, hkn]) rfl rfl (by rw [List.length_map, List.length_range, hN]; exact hj) hdg (fun H1 locs1 hP1 hD1 hS1 => ?_)
  have he : (wsl ad cy I P O D).set q0 (ad (c, z, 0), .inr (c, ((List.range (fN c)).map (fv ad (I c z 0) (P c z 0) c z)).set j (cv ad (.inr (.inr (t, w, 0)))))) = wsl ad cy (I) (updP P c z 0 j w) O D := by
    rw [map_range_set (F' := fv ad ((I) c z 0) ((updP P c z 0 j w) c z 0) c z) (by rw [hN]; exact hj) (by simp [fv, hk.1, hk.2, cv, updP]) (fun k' hk' => by simp only [fv]; split <;> simp [updP, hk']), ← ce_obj (ad := ad) (cy := cy) (O := O) hK0]
    exact wsl_set hl0 hR.2.1 (fun i' _ h' => ce_offP h')
  rw [he] at hP1 hD1
  exact k.2 C ad H1 locs1 ls ⟨hP1, hD1, hS1, hR.2.2.2⟩
theorem h_iald {c z r : Nat} {i : Int32} (hk : cK c = 1) (hdg : decode cc pc = .ok (.iaload, 1)) (ho : okI D c z r = true) (hi : inb i (cL c z) = true) (k : Here X cc own mL ret d nm (pc + 1) lo (.inl (I c z r i.toNatClampNeg) :: st) I P O D n Q) : Here X cc own mL ret d nm pc lo (.inl i :: .inr (.inr (c, z, r)) :: st) I P O D n Q := by
  obtain ⟨p, l, e, R, s, m, args, below, meth, co, Dg, cy, N0, n0, ad0, sv, hh⟩ := X
  refine ⟨k.1, fun C ad H locs ls hR => ?_⟩
  obtain ⟨q0, -, hq0⟩ := wsl_get (ad := ad) (cy := cy) (I := I) (P := P) (O := O) (mem_LST ho)
  rw [ce_ia hk] at hq0
  exact va_iald C.1 C.2.1 C.2.2.2.2.2.2.2.1 hR.1 q0 0 hq0 rfl (inb_in hi) hdg (k.2 C ad H locs ls hR)
theorem h_bald {c z r : Nat} {i : Int32} (hk : cK c = 2) (hdg : decode cc pc = .ok (.baload, 1)) (ho : okI D c z r = true) (hi : inb i (cL c z) = true) (k : Here X cc own mL ret d nm (pc + 1) lo (.inl (I c z r i.toNatClampNeg) :: st) I P O D n Q) : Here X cc own mL ret d nm pc lo (.inl i :: .inr (.inr (c, z, r)) :: st) I P O D n Q := by
  obtain ⟨p, l, e, R, s, m, args, below, meth, co, Dg, cy, N0, n0, ad0, sv, hh⟩ := X
  refine ⟨k.1, fun C ad H locs ls hR => ?_⟩
  obtain ⟨q0, -, hq0⟩ := wsl_get (ad := ad) (cy := cy) (I := I) (P := P) (O := O) (mem_LST ho)
  rw [ce_ba hk] at hq0
  exact va_bald C.1 C.2.1 C.2.2.2.2.2.2.2.1 hR.1 q0 1 hq0 rfl (inb_in hi) hdg (k.2 C ad H locs ls hR)
theorem h_iast {c z r : Nat} {i v : Int32} (hk : cK c = 1) (hdg : decode cc pc = .ok (.iastore, 1)) (ho : okI D c z r = true) (hi : inb i (cL c z) = true) (k : Here X cc own mL ret d nm (pc + 1) lo st (upd4 I c z r i.toNatClampNeg v) P O D n Q) : Here X cc own mL ret d nm pc lo (.inl v :: .inl i :: .inr (.inr (c, z, r)) :: st) I P O D n Q := by
  obtain ⟨p, l, e, R, s, m, args, below, meth, co, Dg, cy, N0, n0, ad0, sv, hh⟩ := X
  refine ⟨k.1, fun C ad H locs ls hR => ?_⟩
  obtain ⟨q0, hl0, hq0⟩ := wsl_get (ad := ad) (cy := cy) (I := I) (P := P) (O := O) (mem_LST ho)
  rw [ce_ia hk] at hq0
  refine va_iast C.1 C.2.1 C.2.2.2.2.2.2.2.1 hR.1 hR.2.1 hR.2.2.1 q0 0 hq0 rfl (inb_in hi) hdg (fun H1 locs1 hP1 hD1 hS1 => ?_)
  have he := wsl_set (cy := cy) (P' := P) (O' := O) hl0 hR.2.1 (fun i' _ h' => ce_off (v := v) (i := i.toNatClampNeg) h')
  rw [ce_ia hk, upd4_row] at he
  rw [he] at hP1 hD1
  exact k.2 C ad H1 locs1 ls ⟨hP1, hD1, hS1, hR.2.2.2⟩
theorem h_bast {c z r : Nat} {i v : Int32} (hk : cK c = 2) (hdg : decode cc pc = .ok (.bastore, 1)) (ho : okI D c z r = true) (hi : inb i (cL c z) = true) (k : Here X cc own mL ret d nm (pc + 1) lo st (upd4 I c z r i.toNatClampNeg v.toInt8.toInt32) P O D n Q) : Here X cc own mL ret d nm pc lo (.inl v :: .inl i :: .inr (.inr (c, z, r)) :: st) I P O D n Q := by
  obtain ⟨p, l, e, R, s, m, args, below, meth, co, Dg, cy, N0, n0, ad0, sv, hh⟩ := X
  refine ⟨k.1, fun C ad H locs ls hR => ?_⟩
  obtain ⟨q0, hl0, hq0⟩ := wsl_get (ad := ad) (cy := cy) (I := I) (P := P) (O := O) (mem_LST ho)
  rw [ce_ba hk] at hq0
  refine va_bast C.1 C.2.1 C.2.2.2.2.2.2.2.1 hR.1 hR.2.1 hR.2.2.1 q0 1 hq0 rfl (inb_in hi) hdg (fun H1 locs1 hP1 hD1 hS1 => ?_)
  have he := wsl_set (cy := cy) (P' := P) (O' := O) hl0 hR.2.1 (fun i' _ h' => ce_off (v := v.toInt8.toInt32) (i := i.toNatClampNeg) h')
  rw [ce_ba hk, upd4_row] at he
  rw [vp_nar_byte] at hP1 hD1
  rw [he] at hP1 hD1
  exact k.2 C ad H1 locs1 ls ⟨hP1, hD1, hS1, hR.2.2.2⟩
theorem h_aaldg {c z r : Nat} {i : Int32} (hk : cK c = 3) (hdg : decode cc pc = .ok (.aaload, 1)) (ho : okI D c z r = true) (hi : inb i (cL c z) = true) (k : Here X cc own mL ret d nm (pc + 1) lo (.inr (.inr (c + 1, z, i.toNatClampNeg)) :: st) I P O D n Q) : Here X cc own mL ret d nm pc lo (.inl i :: .inr (.inr (c, z, r)) :: st) I P O D n Q := by
  obtain ⟨p, l, e, R, s, m, args, below, meth, co, Dg, cy, N0, n0, ad0, sv, hh⟩ := X
  refine ⟨k.1, fun C ad H locs ls hR => ?_⟩
  obtain ⟨q0, -, hq0⟩ := wsl_get (ad := ad) (cy := cy) (I := I) (P := P) (O := O) (mem_LST ho)
  rw [ce_ga hk] at hq0
  have hlt := inb_lt hi
  exact W.aald (v := .ref (ad (c + 1, z, i.toNatClampNeg))) (ty := .array .int) C.1 C.2.1 (hR.1 q0 _ hq0) ((C.2.2.2.2.2.2.2.1.2 2 _ rfl).1 (cL c z) (fun j => va_rf (some (ad (c + 1, z, j))))) rfl (fun q => by cases q) (by show ¬ (i < 0 ∨ (arrV _ _ _).slots.size ≤ _); rw [arrV_size]; exact inb_in hi) (by show (arrV _ _ _).slots[_]? = _; rw [arrV_read _ _ hlt]; rfl) rfl rfl hdg (k.2 C ad H locs ls hR)
theorem h_aalds {c z r : Nat} {i : Int32} (hk : cK c = 4) (hdg : decode cc pc = .ok (.aaload, 1)) (ho : okI D c z r = true) (hi : inb i (cL c z) = true) (k : Here X cc own mL ret d nm (pc + 1) lo (.inr (.inr (90, cS c + i.toNatClampNeg, 0)) :: st) I P O D n Q) : Here X cc own mL ret d nm pc lo (.inl i :: .inr (.inr (c, z, r)) :: st) I P O D n Q := by
  obtain ⟨p, l, e, R, s, m, args, below, meth, co, Dg, cy, N0, n0, ad0, sv, hh⟩ := X
  refine ⟨k.1, fun C ad H locs ls hR => ?_⟩
  obtain ⟨q0, -, hq0⟩ := wsl_get (ad := ad) (cy := cy) (I := I) (P := P) (O := O) (mem_LST ho)
  rw [ce_sa hk] at hq0
  have hlt := inb_lt hi
  exact W.aald (v := .ref (ad (90, cS c + i.toNatClampNeg, 0))) (ty := .object "java/lang/String") C.1 C.2.1 (hR.1 q0 _ hq0) ((C.2.2.2.2.2.2.2.1.2 3 _ rfl).1 (cL c z) (fun j => va_rf (some (ad (90, cS c + j, 0))))) rfl (fun q => by cases q) (by show ¬ (i < 0 ∨ (arrV _ _ _).slots.size ≤ _); rw [arrV_size]; exact inb_in hi) (by show (arrV _ _ _).slots[_]? = _; rw [arrV_read _ _ hlt]; rfl) rfl rfl hdg (k.2 C ad H locs ls hR)
theorem h_aleni {c z r : Nat} (v : Int32) (hk : cK c = 1) (hdg : decode cc pc = .ok (.arraylength, 1)) (ho : okI D c z r = true) (hv : Int32.ofNat (cL c z) = v) (k : Here X cc own mL ret d nm (pc + 1) lo (.inl v :: st) I P O D n Q) : Here X cc own mL ret d nm pc lo (.inr (.inr (c, z, r)) :: st) I P O D n Q := by
  obtain ⟨p, l, e, R, s, m, args, below, meth, co, Dg, cy, N0, n0, ad0, sv, hh⟩ := X
  refine ⟨k.1, fun C ad H locs ls hR => ?_⟩
  obtain ⟨q0, -, hq0⟩ := wsl_get (ad := ad) (cy := cy) (I := I) (P := P) (O := O) (mem_LST ho)
  rw [ce_ia hk] at hq0
  exact va_alen C.1 C.2.1 C.2.2.2.2.2.2.2.1 hR.1 q0 0 hq0 rfl hv hdg (k.2 C ad H locs ls hR)
theorem h_alens {c z r : Nat} (v : Int32) (hk : cK c = 4) (hdg : decode cc pc = .ok (.arraylength, 1)) (ho : okI D c z r = true) (hv : Int32.ofNat (cL c z) = v) (k : Here X cc own mL ret d nm (pc + 1) lo (.inl v :: st) I P O D n Q) : Here X cc own mL ret d nm pc lo (.inr (.inr (c, z, r)) :: st) I P O D n Q := by
  obtain ⟨p, l, e, R, s, m, args, below, meth, co, Dg, cy, N0, n0, ad0, sv, hh⟩ := X
  refine ⟨k.1, fun C ad H locs ls hR => ?_⟩
  obtain ⟨q0, -, hq0⟩ := wsl_get (ad := ad) (cy := cy) (I := I) (P := P) (O := O) (mem_LST ho)
  rw [ce_sa hk] at hq0
  exact va_alen C.1 C.2.1 C.2.2.2.2.2.2.2.1 hR.1 q0 3 hq0 rfl hv hdg (k.2 C ad H locs ls hR)
theorem h_lald {i : Int32} (hdg : decode cc pc = .ok (.laload, 1)) (hi : inb i 1 = true) (k : Here X cc own mL ret d nm (pc + 1) lo (.inr (.inl (O i.toNatClampNeg)) :: st) I P O D n Q) : Here X cc own mL ret d nm pc lo (.inl i :: .inr (.inr (86, 0, 0)) :: st) I P O D n Q := by
  obtain ⟨p, l, e, R, s, m, args, below, meth, co, Dg, cy, N0, n0, ad0, sv, hh⟩ := X
  refine ⟨k.1, fun C ad H locs ls hR => ?_⟩
  obtain ⟨q0, -, hq0⟩ := wsl_get (ad := ad) (cy := cy) (I := I) (P := P) (O := O) (mem_LST (d := D) (c := 86) (z := 0) (r := 0) rfl)
  rw [ce_la rfl] at hq0
  exact va_lald C.1 C.2.1 C.2.2.2.2.2.2.2.1 hR.1 q0 4 hq0 rfl (inb_in hi) hdg (k.2 C ad H locs ls hR)
theorem h_last {i : Int32} {v : Int64} (hdg : decode cc pc = .ok (.lastore, 1)) (hi : inb i 1 = true) (k : Here X cc own mL ret d nm (pc + 1) lo st I P (vp_updL O i.toNatClampNeg v) D n Q) : Here X cc own mL ret d nm pc lo (.inr (.inl v) :: .inl i :: .inr (.inr (86, 0, 0)) :: st) I P O D n Q := by
  obtain ⟨p, l, e, R, s, m, args, below, meth, co, Dg, cy, N0, n0, ad0, sv, hh⟩ := X
  refine ⟨k.1, fun C ad H locs ls hR => ?_⟩
  obtain ⟨q0, hl0, hq0⟩ := wsl_get (ad := ad) (cy := cy) (I := I) (P := P) (O := O) (mem_LST (d := D) (c := 86) (z := 0) (r := 0) rfl)
  rw [ce_la rfl] at hq0
  refine va_last C.1 C.2.1 C.2.2.2.2.2.2.2.1 hR.1 hR.2.1 hR.2.2.1 q0 4 hq0 rfl (inb_in hi) hdg (fun H1 locs1 hP1 hD1 hS1 => ?_)
  have he := wsl_set (cy := cy) (I' := I) (P' := P) (O' := vp_updL O i.toNatClampNeg v) hl0 hR.2.1 (fun i' hm h' => ce_offO hm h')
  rw [ce_la rfl] at he
  have hL : cL 86 0 = 1 := rfl
  rw [he] at hP1 hD1
  exact k.2 C ad H1 locs1 ls ⟨hP1, hD1, hS1, hR.2.2.2⟩
end Rules2
