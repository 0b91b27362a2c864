section AlenB
variable {X : CX} {cc : ByteArray} {own : String} {mL : Nat} {ret : Option FieldType} {d nm pc : Nat} {lo : List (Option AV)} {st : List AV} {I : Mem} {P : PMem} {O : Nat → Int64} {D : Bool} {n : Nat} {Q : State → Prop}
theorem h_alenb {c z r : Nat} (v : Int32) (hk : cK c = 2) (hdg : decode cc pc = .ok (.arraylength, 1)) (ho : okI D c z r = true) (hv : Int32.ofNat (cL c z) = v) (k : Here X cc own mL ret d nm (pc + 1) lo (.inl v :: st) I P O D n Q) : Here X cc own mL ret d nm pc lo (.inr (.inr (c, z, r)) :: st) I P O D n Q := by
  obtain ⟨p, l, e, R, s, m, args, below, meth, co, Dg, cy, N0, n0, ad0, sv, hh⟩ := X
  refine ⟨k.1, fun C ad H locs ls hR => ?_⟩
  obtain ⟨q0, -, hq0⟩ := wsl_get (ad := ad) (cy := cy) (I := I) (P := P) (O := O) (mem_LST ho)
  rw [ce_ba hk] at hq0
  exact va_alen C.1 C.2.1 C.2.2.2.2.2.2.2.1 hR.1 q0 1 hq0 rfl hv hdg (k.2 C ad H locs ls hR)
end AlenB
