/-! the JDK's own members, switches, what makes a thing -/
def jshl (x y : Int32) : Int32 := x <<< (y &&& 31)
def jshr (x y : Int32) : Int32 := x >>> (y &&& 31)
def jushr (x y : Int32) : Int32 := (x.toUInt32 >>> (y.toUInt32 &&& Int32.toUInt32 31)).toInt32
def jrem (x y : Int32) : Int32 := x - x / y * y
def jmax (x y : Int32) : Int32 := if x < y then y else x
def jmin (x y : Int32) : Int32 := if y < x then y else x
def gd {α : Type} (b : Bool) (x : Option α) : Option α := if b = true then x else none
def bnd {α β : Type} (x : α) (k : α → β) : β := k x
theorem gd_some {α : Type} {b : Bool} {x : Option α} {r : α} (h : gd b x = some r) : b = true ∧ x = some r := by
  unfold gd at h
  split at h
  · exact ⟨by assumption, h⟩
  · cases h
theorem bnd_some {α β : Type} {x : α} {k : α → β} {r : β} (h : bnd x k = r) : ∃ y, y = x ∧ k y = r := ⟨x, rfl, h⟩
theorem obd_some {α β : Type} {x : Option α} {k : α → Option β} {r : β} (h : x.bind k = some r) : ∃ y, x = some y ∧ k y = some r := Option.bind_eq_some_iff.mp h
def updR (I : Mem) (c z r : Nat) (f : Nat → Int32) : Mem := fun c' z' r' => if c' = c ∧ z' = z ∧ r' = r then f else I c' z' r'
def cpOK (sp dp k : Int32) (n0 n1 : Nat) : Bool := decide (0 ≤ sp.toInt ∧ 0 ≤ dp.toInt ∧ 0 ≤ k.toInt ∧ sp.toInt + k.toInt ≤ n0 ∧ dp.toInt + k.toInt ≤ n1)
def iaOK (c z r : Nat) : Bool := (cK c == 1) && decide (z < cN c) && decide (r < cR c)
theorem iaOK_k {c z r : Nat} (h : iaOK c z r = true) : cK c = 1 := by
  simp only [iaOK, Bool.and_eq_true, beq_iff_eq] at h
  exact h.1.1
theorem iaOK_o {c z r : Nat} (h : iaOK c z r = true) (D : Bool) : okI D c z r = true := by
  have hk := iaOK_k h
  simp only [iaOK, Bool.and_eq_true] at h
  unfold okI
  rw [if_neg (fun e => by subst e; cases hk), Bool.and_eq_true]
  exact ⟨h.1.2, h.2⟩
theorem upd4_rowR (I : Mem) (c z r : Nat) (f : Nat → Int32) : updR I c z r f c z r = f := by
  unfold updR
  rw [if_pos ⟨rfl, rfl, rfl⟩]
theorem ce_offR {ad : Id3 → Nat} {cy : Nat → ClassId} {I : Mem} {P : PMem} {O : Nat → Int64} {c z r : Nat} {f : Nat → Int32} {i' : Id3} (h : i' ≠ (c, z, r)) : ce ad cy (updR I c z r f) P O i' = ce ad cy I P O i' := by
  unfold ce
  have : updR I c z r f i'.1 i'.2.1 i'.2.2 = I i'.1 i'.2.1 i'.2.2 := by
    unfold updR
    rw [if_neg]
    rintro ⟨h1, h2, h3⟩
    exact h (by rw [← h1, ← h2, ← h3])
  rw [this]
theorem clamp_le {x : Int32} (h : 0 ≤ x.toInt) : (x.toNatClampNeg : Int) = x.toInt := by
  unfold Int32.toNatClampNeg
  exact Int.toNat_of_nonneg h
theorem not_neg {x : Int32} (h : 0 ≤ x.toInt) : ¬ x < 0 := by
  intro q
  have := Int32.lt_iff_toInt_lt.mp q
  have z : (0 : Int32).toInt = 0 := rfl
  omega
section Rules3
variable {X : CX} {cc : ByteArray} {own : String} {mL : Nat} {ret : Option FieldType} {d nm pc : Nat} {lo : List (Option AV)} {st : List AV} {I : Mem} {P : PMem} {O : Nat → Int64} {D : Bool} {n : Nat} {Q : State → Prop}
theorem h_nmI {I' : Mem} (h : I' = I) (k : Here X cc own mL ret d nm pc lo st I' P O D n Q) : Here X cc own mL ret d nm pc lo st I P O D n Q := h ▸ k
theorem h_nmP {P' : PMem} (h : P' = P) (k : Here X cc own mL ret d nm pc lo st I P' O D n Q) : Here X cc own mL ret d nm pc lo st I P O D n Q := h ▸ k
theorem h_nmO {O' : Nat → Int64} (h : O' = O) (k : Here X cc own mL ret d nm pc lo st I P O' D n Q) : Here X cc own mL ret d nm pc lo st I P O D n Q := h ▸ k
theorem h_nmv {x y : Int32} (h : y = x) (k : Here X cc own mL ret d nm pc lo (.inl y :: st) I P O D n Q) : Here X cc own mL ret d nm pc lo (.inl x :: st) I P O D n Q := h ▸ k
theorem h_shl {x y : Int32} (hdg : decode cc pc = .ok (.ishl, 1)) (k : Here X cc own mL ret d nm (pc + 1) lo (.inl (jshl x y) :: st) I P O D n Q) : Here X cc own mL ret d nm pc lo (.inl y :: .inl x :: st) I P O D n Q := h_ishl hdg k
theorem h_shr {x y : Int32} (hdg : decode cc pc = .ok (.ishr, 1)) (k : Here X cc own mL ret d nm (pc + 1) lo (.inl (jshr x y) :: st) I P O D n Q) : Here X cc own mL ret d nm pc lo (.inl y :: .inl x :: st) I P O D n Q := h_ishr hdg k
theorem h_ushr {x y : Int32} (hdg : decode cc pc = .ok (.iushr, 1)) (k : Here X cc own mL ret d nm (pc + 1) lo (.inl (jushr x y) :: st) I P O D n Q) : Here X cc own mL ret d nm pc lo (.inl y :: .inl x :: st) I P O D n Q := h_iushr hdg k
theorem h_div {x y : Int32} (hdg : decode cc pc = .ok (.idiv, 1)) (hy : (y != 0) = true) (k : Here X cc own mL ret d nm (pc + 1) lo (.inl (x / y) :: st) I P O D n Q) : Here X cc own mL ret d nm pc lo (.inl y :: .inl x :: st) I P O D n Q := h_idiv hdg (by simpa using hy) k
theorem h_rem {x y : Int32} (hdg : decode cc pc = .ok (.irem, 1)) (hy : (y != 0) = true) (k : Here X cc own mL ret d nm (pc + 1) lo (.inl (jrem x y) :: st) I P O D n Q) : Here X cc own mL ret d nm pc lo (.inl y :: .inl x :: st) I P O D n Q := h_irem hdg (by simpa using hy) k
theorem h_max {idx : Nat} {x y : Int32} (hdg : decode cc pc = .ok (.invokestatic idx, 3)) (hw : Cond.methodLink own idx Lib.Math.max.name ∈ GW) (w1 : Cond.static Lib.Math.max.name ∈ GW) (w2 : Cond.initialized "java/lang/Math" ∈ GW) (w3 : Cond.code Lib.Math.max.name Lib.Math.max.code 2 (some .int) ∈ GW) (hd : 1 ≤ d) (hr : Nat.ble (catS st) 8 = true) (k : Here X cc own mL ret d nm (pc + 3) lo (.inl (jmax x y) :: st) I P O D n Q) : Here X cc own mL ret d nm pc lo (.inl y :: .inl x :: st) I P O D n Q := by
  obtain ⟨p, l, e, R, s, m, args, below, meth, co, Dg, cy, N0, n0, ad0, sv, hh⟩ := X
  refine ⟨k.1, fun C ad H locs ls hR => ?_⟩
  obtain ⟨hx, hb, hml, hret, hlocks, hown, hts, hK, hN, hfr, hlo, hce, hsl, htr, htb, hE⟩ := id C
  have hnm := k.1
  have hcat : ((st.map (cv ad)).map fun v => v.category).sum ≤ 8 := by rw [catS_eq]; exact Nat.le_of_ble_eq_true hr
  exact va_mmax hx hb (hml.trans hR.2.2.2.1.1.symm) hown (hts _ hw) (hts _ w1) (hts _ w2) (hts _ w3) (by omega) (by omega) (by omega) (by omega) hdg (k.2 C ad H locs ls hR)
theorem h_min {idx : Nat} {x y : Int32} (hdg : decode cc pc = .ok (.invokestatic idx, 3)) (hw : Cond.methodLink own idx Lib.Math.min.name ∈ GW) (w1 : Cond.static Lib.Math.min.name ∈ GW) (w2 : Cond.initialized "java/lang/Math" ∈ GW) (w3 : Cond.code Lib.Math.min.name Lib.Math.min.code 2 (some .int) ∈ GW) (hd : 1 ≤ d) (hr : Nat.ble (catS st) 8 = true) (k : Here X cc own mL ret d nm (pc + 3) lo (.inl (jmin x y) :: st) I P O D n Q) : Here X cc own mL ret d nm pc lo (.inl y :: .inl x :: st) I P O D n Q := by
  obtain ⟨p, l, e, R, s, m, args, below, meth, co, Dg, cy, N0, n0, ad0, sv, hh⟩ := X
  refine ⟨k.1, fun C ad H locs ls hR => ?_⟩
  obtain ⟨hx, hb, hml, hret, hlocks, hown, hts, hK, hN, hfr, hlo, hce, hsl, htr, htb, hE⟩ := id C
  have hnm := k.1
  have hcat : ((st.map (cv ad)).map fun v => v.category).sum ≤ 8 := by rw [catS_eq]; exact Nat.le_of_ble_eq_true hr
  exact va_mmin hx hb (hml.trans hR.2.2.2.1.1.symm) hown (hts _ hw) (hts _ w1) (hts _ w2) (hts _ w3) (by omega) (by omega) (by omega) (by omega) hdg (k.2 C ad H locs ls hR)
theorem nfw_copy : nativeFrameWords "java/lang/System" "arraycopy" 5 + 11 ≤ 50 := by decide +kernel
theorem h_copy {idx c0 z0 r0 c z r : Nat} {sp dp q : Int32} (hdg : decode cc pc = .ok (.invokestatic idx, 3)) (hw : Cond.methodLink own idx arraycopyName ∈ GW) (w1 : Cond.native arraycopyName ∈ GW) (w2 : Cond.static arraycopyName ∈ GW) (w3 : Cond.initialized "java/lang/System" ∈ GW) (hd : 1 ≤ d) (hr : Nat.ble (catS st) 8 = true)
    (h0 : cK c0 = 1) (o0 : okI D c0 z0 r0 = true) (h1 : cK c = 1) (o1 : okI D c z r = true) (hg : cpOK sp dp q (cL c0 z0) (cL c z) = true)
    (k : Here X cc own mL ret d nm (pc + 3) lo st (updR I c z r (va_cpy (I c0 z0 r0) (I c z r) sp.toNatClampNeg dp.toNatClampNeg q.toNatClampNeg)) P O D n Q) : Here X cc own mL ret d nm pc lo (.inl q :: .inl dp :: .inr (.inr (c, z, r)) :: .inl sp :: .inr (.inr (c0, z0, r0)) :: st) I P O D n Q := by
  obtain ⟨p, l, e, R, s, m, args, below, meth, co, Dg, cy, N0, n0, ad0, sv, hh⟩ := X
  refine ⟨k.1, fun C ad H locs ls hR => ?_⟩
  obtain ⟨hx, hb, hml, hret, hlocks, hown, hts, hK, hN, hfr, hlo, hce, hsl, htr, htb, hE⟩ := id C
  have hcat : ((st.map (cv ad)).map fun v => v.category).sum ≤ 8 := by rw [catS_eq]; exact Nat.le_of_ble_eq_true hr
  have hnf := nfw_copy
  obtain ⟨q0, -, hq0⟩ := wsl_get (ad := ad) (cy := cy) (I := I) (P := P) (O := O) (mem_LST o0)
  obtain ⟨q1, hl1, hq1⟩ := wsl_get (ad := ad) (cy := cy) (I := I) (P := P) (O := O) (mem_LST o1)
  rw [ce_ia h0] at hq0
  rw [ce_ia h1] at hq1
  obtain ⟨a1, a2, a3, a4, a5⟩ := of_decide_eq_true hg
  have b1 := clamp_le a1
  have b2 := clamp_le a2
  have b3 := clamp_le a3
  refine va_copyi hx hb (hml.trans hR.2.2.2.1.1.symm) hown (hts _ hw) (hts _ w1) (hts _ w2) (hts _ w3) hK hR.1 hR.2.1 hR.2.2.1 q0 q1 0 0 (ty := .int) hq0 hq1 rfl rfl rfl (not_neg a1) (not_neg a2) (not_neg a3) (by omega) (by omega) (fun _ _ => rfl) (by omega) (by omega) hdg (fun H1 locs1 hP1 hD1 hS1 => ?_)
  have he := wsl_set (cy := cy) (P' := P) (O' := O) hl1 hR.2.1 (fun i' _ h' => ce_offR (f := va_cpy (I c0 z0 r0) (I c z r) sp.toNatClampNeg dp.toNatClampNeg q.toNatClampNeg) h')
  rw [ce_ia h1, upd4_rowR] at he
  rw [he] at hP1 hD1
  exact k.2 C ad H1 locs1 ls ⟨hP1, hD1, hS1, hR.2.2.2⟩
theorem h_ldcs {q j : Nat} {text : String} (hdg : decode cc pc = .ok (.ldc q, 2)) (hs : (own, q, text, j) ∈ strT) (k : Here X cc own mL ret d nm (pc + 2) lo (.inr (.inr (90, j, 0)) :: st) I P O D n Q) : Here X cc own mL ret d nm pc lo st I P O D n Q := by
  obtain ⟨p, l, e, R, s, m, args, below, meth, co, Dg, cy, N0, n0, ad0, sv, hh⟩ := X
  refine ⟨k.1, fun C ad H locs ls hR => ?_⟩
  obtain ⟨hx, hb, hml, hret, hlocks, hown, hts, hK, hN, hfr, hlo, hce, hsl, htr, htb, hE⟩ := id C
  have hz := hE.1 _ hs
  have e1 : ad0 (90, j, 0) = ad (90, j, 0) := (hR.2.2.2.2.2.1 _ (by simp)).symm
  have hz2 : vk_R own q text (ad (90, j, 0)) s := by rw [← e1]; exact hz
  exact va_ldcS hx hb hown hz2 hdg (k.2 C ad H locs ls hR)
/-- a table's switch -/
theorem h_tswIn {x : Int32} {dflt lw hi : Int} {offs : Array Int} {len : Nat} (j : Nat) {off : Int} {tgt : Nat} (hdg : decode cc pc = .ok (.tableswitch dflt lw hi offs, len)) (hx : x.toInt = lw + j) (hj : lw + j ≤ hi) (ho : offs[j]? = some off) (ht : (pc : Int) + off = (tgt : Int)) (k : Here X cc own mL ret d nm tgt lo st I P O D n Q) : Here X cc own mL ret d nm pc lo (.inl x :: st) I P O D n Q := by
  obtain ⟨p, l, e, R, s, m, args, below, meth, co, Dg, cy, N0, n0, ad0, sv, hh⟩ := X
  refine ⟨k.1, fun C ad H locs ls hR => ?_⟩
  exact lv_tableIn C.1 C.2.1 hdg (by omega) (by omega) (by rw [show (x.toInt - lw).toNat = j by omega]; exact ho) ht (k.2 C ad H locs ls hR)
theorem h_tswOut {x : Int32} {dflt lw hi : Int} {offs : Array Int} {len tgt : Nat} (hdg : decode cc pc = .ok (.tableswitch dflt lw hi offs, len)) (hx : x.toInt < lw ∨ hi < x.toInt) (ht : (pc : Int) + dflt = (tgt : Int)) (k : Here X cc own mL ret d nm tgt lo st I P O D n Q) : Here X cc own mL ret d nm pc lo (.inl x :: st) I P O D n Q := by
  obtain ⟨p, l, e, R, s, m, args, below, meth, co, Dg, cy, N0, n0, ad0, sv, hh⟩ := X
  refine ⟨k.1, fun C ad H locs ls hR => ?_⟩
  exact lv_tableOut C.1 C.2.1 hdg hx ht (k.2 C ad H locs ls hR)
end Rules3
