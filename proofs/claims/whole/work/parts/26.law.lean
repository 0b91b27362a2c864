/-! the law's script -/
def ScrX (X : CX) (xs : Nat → Int32) (L : Nat) : Prop := match X with
  | (_, _, _, _, s, _, _, _, _, _, _, _, N0, _, ad0, _, _) => va_X (ad0 (93, 0, 0)) L xs s s.heap ∧ ad0 (93, 0, 0) < s.heap.size ∧ ¬ AN N0 (ad0 (93, 0, 0))
section Scr
variable {X : CX} {cc : ByteArray} {own : String} {mL : Nat} {ret : Option FieldType} {d nm pc : Nat} {lo : List (Option AV)} {st : List AV} {I : Mem} {P : PMem} {O : Nat → Int64} {D : Bool} {n : Nat} {Q : State → Prop} {xs : Nat → Int32} {L : Nat}
theorem h_scr (hs : ScrX X xs L) {i : Int32} (hdg : decode cc pc = .ok (.iaload, 1)) (hi : inb i L = true) (k : Here X cc own mL ret d nm (pc + 1) lo (.inl (xs i.toNatClampNeg) :: st) I P O D n Q) : Here X cc own mL ret d nm pc lo (.inl i :: .inr (.inr (93, 0, 0)) :: st) I P O D n Q := by
  obtain ⟨p, l, e, R, s, m, args, below, meth, co, Dg, cy, N0, n0, ad0, sv, hh⟩ := X
  refine ⟨k.1, fun C ad H locs ls hR => ?_⟩
  obtain ⟨h1, h2, h3⟩ := hs
  have e1 : ad (93, 0, 0) = ad0 (93, 0, 0) := hR.2.2.2.2.2.1 _ (by simp)
  have hk := k.2 C ad H locs ls hR
  simp only [List.map_cons, cv, e1] at hk ⊢
  exact va_sld C.1 C.2.1 h1 h2 h3 hR.2.2.1 (inb_in hi) hdg hk
theorem h_scrL (hs : ScrX X xs L) (hdg : decode cc pc = .ok (.arraylength, 1)) (k : Here X cc own mL ret d nm (pc + 1) lo (.inl (Int32.ofNat L) :: st) I P O D n Q) : Here X cc own mL ret d nm pc lo (.inr (.inr (93, 0, 0)) :: st) I P O D n Q := by
  obtain ⟨p, l, e, R, s, m, args, below, meth, co, Dg, cy, N0, n0, ad0, sv, hh⟩ := X
  refine ⟨k.1, fun C ad H locs ls hR => ?_⟩
  obtain ⟨h1, h2, h3⟩ := hs
  have e1 : ad (93, 0, 0) = ad0 (93, 0, 0) := hR.2.2.2.2.2.1 _ (by simp)
  have hk := k.2 C ad H locs ls hR
  simp only [List.map_cons, cv, e1] at hk ⊢
  exact va_slen C.1 C.2.1 h1 h2 h3 hR.2.2.1 hdg hk
theorem h_lald0 (hdg : decode cc pc = .ok (.laload, 1)) (k : Here X cc own mL ret d nm (pc + 1) lo (.inr (.inl (O 0)) :: st) I P O D n Q) : Here X cc own mL ret d nm pc lo (.inl 0 :: .inr (.inr (86, 0, 0)) :: st) I P O D n Q := h_lald hdg rfl k
end Scr
def f_law_23 (xs : Nat → Int32) (L : Nat) : Nat → Mem → PMem → (Nat → Int64) → Bool → Nat → Int32 → Option (Int32 × Mem × PMem × (Nat → Int64) × Bool × Nat)
  | 0, _, _, _, _, _, _ => none
  | fu + 1, I, P, O, D, n, v4 =>
    if ((Int32.ofNat L) - (6 : Int32)) < v4 then (some ((1 : Int32), I, P, O, D, n)) else (gd (inb v4 L) <|
    (if ((xs v4.toNatClampNeg) &&& (63 : Int32)) = (0 : Int32) then (gd (inb (v4 + (1 : Int32)) L) <|
    gd (inb (v4 + (2 : Int32)) L) <|
    gd (inb (v4 + (3 : Int32)) L) <|
    gd (inb (v4 + (4 : Int32)) L) <|
    gd (inb (v4 + (5 : Int32)) L) <|
    (f_X7_feed I (xs (v4 + (1 : Int32)).toNatClampNeg) (xs (v4 + (2 : Int32)).toNatClampNeg) (xs (v4 + (3 : Int32)).toNatClampNeg) (xs (v4 + (4 : Int32)).toNatClampNeg) (xs (v4 + (5 : Int32)).toNatClampNeg)).bind fun y1 =>
    (f_X8_feed y1.2 (xs (v4 + (1 : Int32)).toNatClampNeg) (xs (v4 + (2 : Int32)).toNatClampNeg) (xs (v4 + (3 : Int32)).toNatClampNeg) (xs (v4 + (4 : Int32)).toNatClampNeg) (xs (v4 + (5 : Int32)).toNatClampNeg)).bind fun y2 =>
    if y1.1 = y2.1 then ((f_law_23 xs L fu) y2.2 P O D n (v4 + (6 : Int32))) else (some ((0 : Int32), y2.2, P, O, D, n))) else (if ((xs v4.toNatClampNeg) &&& (63 : Int32)) = (1 : Int32) then (gd (inb (v4 + (1 : Int32)) L) <|
    (f_L_land I P O D n (xs (v4 + (1 : Int32)).toNatClampNeg)).bind fun y3 =>
    (f_X8_land y3.2.1 (xs (v4 + (1 : Int32)).toNatClampNeg)).bind fun y4 =>
    (f_X8_thrown y4.2).bind fun y5 =>
    if y5 = y3.1 then (if y3.1 = 0 then (if (lg_cmp (y3.2.2.2.1 0) y4.1.toInt64) = 0 then ((f_law_23 xs L fu) y4.2 y3.2.2.1 y3.2.2.2.1 y3.2.2.2.2.1 y3.2.2.2.2.2 (v4 + (6 : Int32))) else (some ((0 : Int32), y4.2, y3.2.2.1, y3.2.2.2.1, y3.2.2.2.2.1, y3.2.2.2.2.2))) else ((f_law_23 xs L fu) y4.2 y3.2.2.1 y3.2.2.2.1 y3.2.2.2.2.1 y3.2.2.2.2.2 (v4 + (6 : Int32)))) else (some ((0 : Int32), y4.2, y3.2.2.1, y3.2.2.2.1, y3.2.2.2.2.1, y3.2.2.2.2.2))) else (if ((xs v4.toNatClampNeg) &&& (63 : Int32)) = (2 : Int32) then ((f_X7_fault I).bind fun y6 =>
    (f_X8_fault I).bind fun y7 =>
    if y6 = y7.1 then ((f_law_23 xs L fu) y7.2 P O D n (v4 + (6 : Int32))) else (some ((0 : Int32), y7.2, P, O, D, n))) else (if ((xs v4.toNatClampNeg) &&& (63 : Int32)) = (3 : Int32) then (gd (inb (v4 + (1 : Int32)) L) <|
    (f_L_count I P O D n (xs (v4 + (1 : Int32)).toNatClampNeg)).bind fun y8 =>
    (f_X8_count y8.2.1 (xs (v4 + (1 : Int32)).toNatClampNeg)).bind fun y9 =>
    (f_X8_thrown y9.2).bind fun y10 =>
    if y10 = y8.1 then (if y8.1 = 0 then (if (lg_cmp (y8.2.2.2.1 0) y9.1.toInt64) = 0 then ((f_law_23 xs L fu) y9.2 y8.2.2.1 y8.2.2.2.1 y8.2.2.2.2.1 y8.2.2.2.2.2 (v4 + (6 : Int32))) else (some ((0 : Int32), y9.2, y8.2.2.1, y8.2.2.2.1, y8.2.2.2.2.1, y8.2.2.2.2.2))) else ((f_law_23 xs L fu) y9.2 y8.2.2.1 y8.2.2.2.1 y8.2.2.2.2.1 y8.2.2.2.2.2 (v4 + (6 : Int32)))) else (some ((0 : Int32), y9.2, y8.2.2.1, y8.2.2.2.1, y8.2.2.2.2.1, y8.2.2.2.2.2))) else (if ((xs v4.toNatClampNeg) &&& (63 : Int32)) = (4 : Int32) then (gd (inb (v4 + (1 : Int32)) L) <|
    gd (inb (v4 + (2 : Int32)) L) <|
    gd (inb (v4 + (3 : Int32)) L) <|
    (f_L_far I P O D n (xs (v4 + (1 : Int32)).toNatClampNeg) (xs (v4 + (2 : Int32)).toNatClampNeg) (xs (v4 + (3 : Int32)).toNatClampNeg)).bind fun y11 =>
    (f_X8_far y11.2.1 (xs (v4 + (1 : Int32)).toNatClampNeg) (xs (v4 + (2 : Int32)).toNatClampNeg) (xs (v4 + (3 : Int32)).toNatClampNeg)).bind fun y12 =>
    (f_X8_thrown y12.2).bind fun y13 =>
    if y13 = y11.1 then (if y11.1 = 0 then (if (lg_cmp (y11.2.2.2.1 0) y12.1.toInt64) = 0 then ((f_law_23 xs L fu) y12.2 y11.2.2.1 y11.2.2.2.1 y11.2.2.2.2.1 y11.2.2.2.2.2 (v4 + (6 : Int32))) else (some ((0 : Int32), y12.2, y11.2.2.1, y11.2.2.2.1, y11.2.2.2.2.1, y11.2.2.2.2.2))) else ((f_law_23 xs L fu) y12.2 y11.2.2.1 y11.2.2.2.1 y11.2.2.2.2.1 y11.2.2.2.2.2 (v4 + (6 : Int32)))) else (some ((0 : Int32), y12.2, y11.2.2.1, y11.2.2.2.1, y11.2.2.2.2.1, y11.2.2.2.2.2))) else (if ((xs v4.toNatClampNeg) &&& (63 : Int32)) = (5 : Int32) then (gd (inb (v4 + (1 : Int32)) L) <|
    gd (inb (v4 + (2 : Int32)) L) <|
    (f_L_judge I P O D n (xs (v4 + (1 : Int32)).toNatClampNeg) (xs (v4 + (2 : Int32)).toNatClampNeg)).bind fun y14 =>
    (f_X8_judge y14.2.1 (xs (v4 + (1 : Int32)).toNatClampNeg) (xs (v4 + (2 : Int32)).toNatClampNeg)).bind fun y15 =>
    (f_X8_thrown y15.2).bind fun y16 =>
    if y16 = y14.1 then (if y14.1 = 0 then (if (lg_cmp (y14.2.2.2.1 0) y15.1.toInt64) = 0 then ((f_law_23 xs L fu) y15.2 y14.2.2.1 y14.2.2.2.1 y14.2.2.2.2.1 y14.2.2.2.2.2 (v4 + (6 : Int32))) else (some ((0 : Int32), y15.2, y14.2.2.1, y14.2.2.2.1, y14.2.2.2.2.1, y14.2.2.2.2.2))) else ((f_law_23 xs L fu) y15.2 y14.2.2.1 y14.2.2.2.1 y14.2.2.2.2.1 y14.2.2.2.2.2 (v4 + (6 : Int32)))) else (some ((0 : Int32), y15.2, y14.2.2.1, y14.2.2.2.1, y14.2.2.2.2.1, y14.2.2.2.2.2))) else (if ((xs v4.toNatClampNeg) &&& (63 : Int32)) = (6 : Int32) then (gd (inb (v4 + (1 : Int32)) L) <|
    gd (inb (v4 + (2 : Int32)) L) <|
    gd (inb (v4 + (3 : Int32)) L) <|
    (f_L_stop I P O D n (xs (v4 + (1 : Int32)).toNatClampNeg) (xs (v4 + (2 : Int32)).toNatClampNeg) (xs (v4 + (3 : Int32)).toNatClampNeg)).bind fun y17 =>
    (f_X8_stop y17.2.1 (xs (v4 + (1 : Int32)).toNatClampNeg) (xs (v4 + (2 : Int32)).toNatClampNeg) (xs (v4 + (3 : Int32)).toNatClampNeg)).bind fun y18 =>
    (f_X8_thrown y18.2).bind fun y19 =>
    if y19 = y17.1 then (if y17.1 = 0 then (if (lg_cmp (y17.2.2.2.1 0) y18.1.toInt64) = 0 then ((f_law_23 xs L fu) y18.2 y17.2.2.1 y17.2.2.2.1 y17.2.2.2.2.1 y17.2.2.2.2.2 (v4 + (6 : Int32))) else (some ((0 : Int32), y18.2, y17.2.2.1, y17.2.2.2.1, y17.2.2.2.2.1, y17.2.2.2.2.2))) else ((f_law_23 xs L fu) y18.2 y17.2.2.1 y17.2.2.2.1 y17.2.2.2.2.1 y17.2.2.2.2.2 (v4 + (6 : Int32)))) else (some ((0 : Int32), y18.2, y17.2.2.1, y17.2.2.2.1, y17.2.2.2.2.1, y17.2.2.2.2.2))) else (if ((xs v4.toNatClampNeg) &&& (63 : Int32)) = (7 : Int32) then (gd (inb (v4 + (1 : Int32)) L) <|
    gd (inb (v4 + (2 : Int32)) L) <|
    (f_L_where I P O D n (xs (v4 + (1 : Int32)).toNatClampNeg) (xs (v4 + (2 : Int32)).toNatClampNeg)).bind fun y20 =>
    (f_X8_where y20.2.1 (xs (v4 + (1 : Int32)).toNatClampNeg) (xs (v4 + (2 : Int32)).toNatClampNeg)).bind fun y21 =>
    (f_X8_thrown y21.2).bind fun y22 =>
    if y22 = y20.1 then (if y20.1 = 0 then (if (lg_cmp (y20.2.2.2.1 0) y21.1.toInt64) = 0 then ((f_law_23 xs L fu) y21.2 y20.2.2.1 y20.2.2.2.1 y20.2.2.2.2.1 y20.2.2.2.2.2 (v4 + (6 : Int32))) else (some ((0 : Int32), y21.2, y20.2.2.1, y20.2.2.2.1, y20.2.2.2.2.1, y20.2.2.2.2.2))) else ((f_law_23 xs L fu) y21.2 y20.2.2.1 y20.2.2.2.1 y20.2.2.2.2.1 y20.2.2.2.2.2 (v4 + (6 : Int32)))) else (some ((0 : Int32), y21.2, y20.2.2.1, y20.2.2.2.1, y20.2.2.2.2.1, y20.2.2.2.2.2))) else (if ((xs v4.toNatClampNeg) &&& (63 : Int32)) = (8 : Int32) then (gd (inb (v4 + (1 : Int32)) L) <|
    gd (inb (v4 + (2 : Int32)) L) <|
    (f_L_proof I P O D n (xs (v4 + (1 : Int32)).toNatClampNeg) (xs (v4 + (2 : Int32)).toNatClampNeg)).bind fun y23 =>
    (f_X8_proof y23.2.1 (xs (v4 + (1 : Int32)).toNatClampNeg) (xs (v4 + (2 : Int32)).toNatClampNeg)).bind fun y24 =>
    (f_X8_thrown y24.2).bind fun y25 =>
    if y25 = y23.1 then (if y23.1 = 0 then (if (lg_cmp (y23.2.2.2.1 0) y24.1.toInt64) = 0 then ((f_law_23 xs L fu) y24.2 y23.2.2.1 y23.2.2.2.1 y23.2.2.2.2.1 y23.2.2.2.2.2 (v4 + (6 : Int32))) else (some ((0 : Int32), y24.2, y23.2.2.1, y23.2.2.2.1, y23.2.2.2.2.1, y23.2.2.2.2.2))) else ((f_law_23 xs L fu) y24.2 y23.2.2.1 y23.2.2.2.1 y23.2.2.2.2.1 y23.2.2.2.2.2 (v4 + (6 : Int32)))) else (some ((0 : Int32), y24.2, y23.2.2.1, y23.2.2.2.1, y23.2.2.2.2.1, y23.2.2.2.2.2))) else (if ((xs v4.toNatClampNeg) &&& (63 : Int32)) = (9 : Int32) then (gd (inb (v4 + (1 : Int32)) L) <|
    gd (inb (v4 + (2 : Int32)) L) <|
    gd (inb (v4 + (3 : Int32)) L) <|
    (f_L_said I P O D n (xs (v4 + (1 : Int32)).toNatClampNeg) (xs (v4 + (2 : Int32)).toNatClampNeg) (xs (v4 + (3 : Int32)).toNatClampNeg)).bind fun y26 =>
    (f_X8_said y26.2.1 (xs (v4 + (1 : Int32)).toNatClampNeg) (xs (v4 + (2 : Int32)).toNatClampNeg) (xs (v4 + (3 : Int32)).toNatClampNeg)).bind fun y27 =>
    (f_X8_thrown y27.2).bind fun y28 =>
    if y28 = y26.1 then (if y26.1 = 0 then (if (lg_cmp (y26.2.2.2.1 0) y27.1.toInt64) = 0 then ((f_law_23 xs L fu) y27.2 y26.2.2.1 y26.2.2.2.1 y26.2.2.2.2.1 y26.2.2.2.2.2 (v4 + (6 : Int32))) else (some ((0 : Int32), y27.2, y26.2.2.1, y26.2.2.2.1, y26.2.2.2.2.1, y26.2.2.2.2.2))) else ((f_law_23 xs L fu) y27.2 y26.2.2.1 y26.2.2.2.1 y26.2.2.2.2.1 y26.2.2.2.2.2 (v4 + (6 : Int32)))) else (some ((0 : Int32), y27.2, y26.2.2.1, y26.2.2.2.1, y26.2.2.2.2.1, y26.2.2.2.2.2))) else (if ((xs v4.toNatClampNeg) &&& (63 : Int32)) = (10 : Int32) then (gd (inb (v4 + (1 : Int32)) L) <|
    gd (inb (v4 + (2 : Int32)) L) <|
    (f_L_met I P O D n (xs (v4 + (1 : Int32)).toNatClampNeg) (xs (v4 + (2 : Int32)).toNatClampNeg)).bind fun y29 =>
    (f_X8_met y29.2.1 (xs (v4 + (1 : Int32)).toNatClampNeg) (xs (v4 + (2 : Int32)).toNatClampNeg)).bind fun y30 =>
    (f_X8_thrown y30.2).bind fun y31 =>
    if y31 = y29.1 then (if y29.1 = 0 then (if (lg_cmp (y29.2.2.2.1 0) y30.1.toInt64) = 0 then ((f_law_23 xs L fu) y30.2 y29.2.2.1 y29.2.2.2.1 y29.2.2.2.2.1 y29.2.2.2.2.2 (v4 + (6 : Int32))) else (some ((0 : Int32), y30.2, y29.2.2.1, y29.2.2.2.1, y29.2.2.2.2.1, y29.2.2.2.2.2))) else ((f_law_23 xs L fu) y30.2 y29.2.2.1 y29.2.2.2.1 y29.2.2.2.2.1 y29.2.2.2.2.2 (v4 + (6 : Int32)))) else (some ((0 : Int32), y30.2, y29.2.2.1, y29.2.2.2.1, y29.2.2.2.2.1, y29.2.2.2.2.2))) else (if ((xs v4.toNatClampNeg) &&& (63 : Int32)) = (11 : Int32) then (gd (inb (v4 + (1 : Int32)) L) <|
    gd (inb (v4 + (2 : Int32)) L) <|
    (f_L_guilty I P O D n (xs (v4 + (1 : Int32)).toNatClampNeg) (xs (v4 + (2 : Int32)).toNatClampNeg)).bind fun y32 =>
    (f_X8_guilty y32.2.1 (xs (v4 + (1 : Int32)).toNatClampNeg) (xs (v4 + (2 : Int32)).toNatClampNeg)).bind fun y33 =>
    (f_X8_thrown y33.2).bind fun y34 =>
    if y34 = y32.1 then (if y32.1 = 0 then (if (lg_cmp (y32.2.2.2.1 0) y33.1.toInt64) = 0 then ((f_law_23 xs L fu) y33.2 y32.2.2.1 y32.2.2.2.1 y32.2.2.2.2.1 y32.2.2.2.2.2 (v4 + (6 : Int32))) else (some ((0 : Int32), y33.2, y32.2.2.1, y32.2.2.2.1, y32.2.2.2.2.1, y32.2.2.2.2.2))) else ((f_law_23 xs L fu) y33.2 y32.2.2.1 y32.2.2.2.1 y32.2.2.2.2.1 y32.2.2.2.2.2 (v4 + (6 : Int32)))) else (some ((0 : Int32), y33.2, y32.2.2.1, y32.2.2.2.1, y32.2.2.2.2.1, y32.2.2.2.2.2))) else (if ((xs v4.toNatClampNeg) &&& (63 : Int32)) = (12 : Int32) then (gd (inb (v4 + (1 : Int32)) L) <|
    gd (inb (v4 + (2 : Int32)) L) <|
    (f_L_news I P O D n (xs (v4 + (1 : Int32)).toNatClampNeg) (xs (v4 + (2 : Int32)).toNatClampNeg)).bind fun y35 =>
    (f_X8_news y35.2.1 (xs (v4 + (1 : Int32)).toNatClampNeg) (xs (v4 + (2 : Int32)).toNatClampNeg)).bind fun y36 =>
    (f_X8_thrown y36.2).bind fun y37 =>
    if y37 = y35.1 then (if y35.1 = 0 then (if (lg_cmp (y35.2.2.2.1 0) y36.1.toInt64) = 0 then ((f_law_23 xs L fu) y36.2 y35.2.2.1 y35.2.2.2.1 y35.2.2.2.2.1 y35.2.2.2.2.2 (v4 + (6 : Int32))) else (some ((0 : Int32), y36.2, y35.2.2.1, y35.2.2.2.1, y35.2.2.2.2.1, y35.2.2.2.2.2))) else ((f_law_23 xs L fu) y36.2 y35.2.2.1 y35.2.2.2.1 y35.2.2.2.2.1 y35.2.2.2.2.2 (v4 + (6 : Int32)))) else (some ((0 : Int32), y36.2, y35.2.2.1, y35.2.2.2.1, y35.2.2.2.2.1, y35.2.2.2.2.2))) else (if ((xs v4.toNatClampNeg) &&& (63 : Int32)) = (13 : Int32) then (gd (inb (v4 + (1 : Int32)) L) <|
    gd (inb (v4 + (2 : Int32)) L) <|
    (f_L_start I P O D n (xs (v4 + (1 : Int32)).toNatClampNeg) (xs (v4 + (2 : Int32)).toNatClampNeg)).bind fun y38 =>
    (f_X8_start y38.2.1 (xs (v4 + (1 : Int32)).toNatClampNeg) (xs (v4 + (2 : Int32)).toNatClampNeg)).bind fun y39 =>
    (f_X8_thrown y39.2).bind fun y40 =>
    if y40 = y38.1 then (if y38.1 = 0 then (if (lg_cmp (y38.2.2.2.1 0) y39.1.toInt64) = 0 then ((f_law_23 xs L fu) y39.2 y38.2.2.1 y38.2.2.2.1 y38.2.2.2.2.1 y38.2.2.2.2.2 (v4 + (6 : Int32))) else (some ((0 : Int32), y39.2, y38.2.2.1, y38.2.2.2.1, y38.2.2.2.2.1, y38.2.2.2.2.2))) else ((f_law_23 xs L fu) y39.2 y38.2.2.1 y38.2.2.2.1 y38.2.2.2.2.1 y38.2.2.2.2.2 (v4 + (6 : Int32)))) else (some ((0 : Int32), y39.2, y38.2.2.1, y38.2.2.2.1, y38.2.2.2.2.1, y38.2.2.2.2.2))) else (if ((xs v4.toNatClampNeg) &&& (63 : Int32)) = (14 : Int32) then (gd (inb (v4 + (1 : Int32)) L) <|
    gd (inb (v4 + (2 : Int32)) L) <|
    if (xs (v4 + (2 : Int32)).toNatClampNeg) = 0 then ((f_L_inn I P O D n (xs (v4 + (1 : Int32)).toNatClampNeg) (0 : Int32)).bind fun y41 =>
    if (xs (v4 + (2 : Int32)).toNatClampNeg) = 0 then ((f_X8_inn y41.2.1 (xs (v4 + (1 : Int32)).toNatClampNeg) (0 : Int32)).bind fun y42 =>
    (f_X8_thrown y42.2).bind fun y43 =>
    if y43 = y41.1 then (if y41.1 = 0 then (if y42.1 = 0 then (if (lg_cmp (y41.2.2.2.1 0) (0 : Int64)) = 0 then ((f_law_23 xs L fu) y42.2 y41.2.2.1 y41.2.2.2.1 y41.2.2.2.2.1 y41.2.2.2.2.2 (v4 + (6 : Int32))) else (some ((0 : Int32), y42.2, y41.2.2.1, y41.2.2.2.1, y41.2.2.2.2.1, y41.2.2.2.2.2))) else (if (lg_cmp (y41.2.2.2.1 0) (1 : Int64)) = 0 then ((f_law_23 xs L fu) y42.2 y41.2.2.1 y41.2.2.2.1 y41.2.2.2.2.1 y41.2.2.2.2.2 (v4 + (6 : Int32))) else (some ((0 : Int32), y42.2, y41.2.2.1, y41.2.2.2.1, y41.2.2.2.2.1, y41.2.2.2.2.2)))) else ((f_law_23 xs L fu) y42.2 y41.2.2.1 y41.2.2.2.1 y41.2.2.2.2.1 y41.2.2.2.2.2 (v4 + (6 : Int32)))) else (some ((0 : Int32), y42.2, y41.2.2.1, y41.2.2.2.1, y41.2.2.2.2.1, y41.2.2.2.2.2))) else ((f_X8_inn y41.2.1 (xs (v4 + (1 : Int32)).toNatClampNeg) (1 : Int32)).bind fun y44 =>
    (f_X8_thrown y44.2).bind fun y45 =>
    if y45 = y41.1 then (if y41.1 = 0 then (if y44.1 = 0 then (if (lg_cmp (y41.2.2.2.1 0) (0 : Int64)) = 0 then ((f_law_23 xs L fu) y44.2 y41.2.2.1 y41.2.2.2.1 y41.2.2.2.2.1 y41.2.2.2.2.2 (v4 + (6 : Int32))) else (some ((0 : Int32), y44.2, y41.2.2.1, y41.2.2.2.1, y41.2.2.2.2.1, y41.2.2.2.2.2))) else (if (lg_cmp (y41.2.2.2.1 0) (1 : Int64)) = 0 then ((f_law_23 xs L fu) y44.2 y41.2.2.1 y41.2.2.2.1 y41.2.2.2.2.1 y41.2.2.2.2.2 (v4 + (6 : Int32))) else (some ((0 : Int32), y44.2, y41.2.2.1, y41.2.2.2.1, y41.2.2.2.2.1, y41.2.2.2.2.2)))) else ((f_law_23 xs L fu) y44.2 y41.2.2.1 y41.2.2.2.1 y41.2.2.2.2.1 y41.2.2.2.2.2 (v4 + (6 : Int32)))) else (some ((0 : Int32), y44.2, y41.2.2.1, y41.2.2.2.1, y41.2.2.2.2.1, y41.2.2.2.2.2)))) else ((f_L_inn I P O D n (xs (v4 + (1 : Int32)).toNatClampNeg) (1 : Int32)).bind fun y46 =>
    if (xs (v4 + (2 : Int32)).toNatClampNeg) = 0 then ((f_X8_inn y46.2.1 (xs (v4 + (1 : Int32)).toNatClampNeg) (0 : Int32)).bind fun y47 =>
    (f_X8_thrown y47.2).bind fun y48 =>
    if y48 = y46.1 then (if y46.1 = 0 then (if y47.1 = 0 then (if (lg_cmp (y46.2.2.2.1 0) (0 : Int64)) = 0 then ((f_law_23 xs L fu) y47.2 y46.2.2.1 y46.2.2.2.1 y46.2.2.2.2.1 y46.2.2.2.2.2 (v4 + (6 : Int32))) else (some ((0 : Int32), y47.2, y46.2.2.1, y46.2.2.2.1, y46.2.2.2.2.1, y46.2.2.2.2.2))) else (if (lg_cmp (y46.2.2.2.1 0) (1 : Int64)) = 0 then ((f_law_23 xs L fu) y47.2 y46.2.2.1 y46.2.2.2.1 y46.2.2.2.2.1 y46.2.2.2.2.2 (v4 + (6 : Int32))) else (some ((0 : Int32), y47.2, y46.2.2.1, y46.2.2.2.1, y46.2.2.2.2.1, y46.2.2.2.2.2)))) else ((f_law_23 xs L fu) y47.2 y46.2.2.1 y46.2.2.2.1 y46.2.2.2.2.1 y46.2.2.2.2.2 (v4 + (6 : Int32)))) else (some ((0 : Int32), y47.2, y46.2.2.1, y46.2.2.2.1, y46.2.2.2.2.1, y46.2.2.2.2.2))) else ((f_X8_inn y46.2.1 (xs (v4 + (1 : Int32)).toNatClampNeg) (1 : Int32)).bind fun y49 =>
    (f_X8_thrown y49.2).bind fun y50 =>
    if y50 = y46.1 then (if y46.1 = 0 then (if y49.1 = 0 then (if (lg_cmp (y46.2.2.2.1 0) (0 : Int64)) = 0 then ((f_law_23 xs L fu) y49.2 y46.2.2.1 y46.2.2.2.1 y46.2.2.2.2.1 y46.2.2.2.2.2 (v4 + (6 : Int32))) else (some ((0 : Int32), y49.2, y46.2.2.1, y46.2.2.2.1, y46.2.2.2.2.1, y46.2.2.2.2.2))) else (if (lg_cmp (y46.2.2.2.1 0) (1 : Int64)) = 0 then ((f_law_23 xs L fu) y49.2 y46.2.2.1 y46.2.2.2.1 y46.2.2.2.2.1 y46.2.2.2.2.2 (v4 + (6 : Int32))) else (some ((0 : Int32), y49.2, y46.2.2.1, y46.2.2.2.1, y46.2.2.2.2.1, y46.2.2.2.2.2)))) else ((f_law_23 xs L fu) y49.2 y46.2.2.1 y46.2.2.2.1 y46.2.2.2.2.1 y46.2.2.2.2.2 (v4 + (6 : Int32)))) else (some ((0 : Int32), y49.2, y46.2.2.1, y46.2.2.2.1, y46.2.2.2.2.1, y46.2.2.2.2.2))))) else (if ((xs v4.toNatClampNeg) &&& (63 : Int32)) = (15 : Int32) then (gd (inb (v4 + (1 : Int32)) L) <|
    gd (inb (v4 + (2 : Int32)) L) <|
    gd (inb (v4 + (3 : Int32)) L) <|
    (f_L_word I P O D n (xs (v4 + (1 : Int32)).toNatClampNeg) (xs (v4 + (2 : Int32)).toNatClampNeg) (xs (v4 + (3 : Int32)).toNatClampNeg)).bind fun y51 =>
    (f_X8_word y51.2.1 (xs (v4 + (1 : Int32)).toNatClampNeg) (xs (v4 + (2 : Int32)).toNatClampNeg) (xs (v4 + (3 : Int32)).toNatClampNeg)).bind fun y52 =>
    (f_X8_thrown y52.2).bind fun y53 =>
    if y53 = y51.1 then (if y51.1 = 0 then (if (lg_cmp (y51.2.2.2.1 0) y52.1.toInt64) = 0 then ((f_law_23 xs L fu) y52.2 y51.2.2.1 y51.2.2.2.1 y51.2.2.2.2.1 y51.2.2.2.2.2 (v4 + (6 : Int32))) else (some ((0 : Int32), y52.2, y51.2.2.1, y51.2.2.2.1, y51.2.2.2.2.1, y51.2.2.2.2.2))) else ((f_law_23 xs L fu) y52.2 y51.2.2.1 y51.2.2.2.1 y51.2.2.2.2.1 y51.2.2.2.2.2 (v4 + (6 : Int32)))) else (some ((0 : Int32), y52.2, y51.2.2.1, y51.2.2.2.1, y51.2.2.2.2.1, y51.2.2.2.2.2))) else (if ((xs v4.toNatClampNeg) &&& (63 : Int32)) = (16 : Int32) then (gd (inb (v4 + (1 : Int32)) L) <|
    gd (inb (v4 + (2 : Int32)) L) <|
    gd (inb (v4 + (3 : Int32)) L) <|
    (f_L_feast I P O D n (xs (v4 + (1 : Int32)).toNatClampNeg) (xs (v4 + (2 : Int32)).toNatClampNeg) (xs (v4 + (3 : Int32)).toNatClampNeg)).bind fun y54 =>
    (f_X8_feast y54.2.1 (xs (v4 + (1 : Int32)).toNatClampNeg) (xs (v4 + (2 : Int32)).toNatClampNeg) (xs (v4 + (3 : Int32)).toNatClampNeg)).bind fun y55 =>
    (f_X8_thrown y55.2).bind fun y56 =>
    if y56 = y54.1 then (if y54.1 = 0 then (if (lg_cmp (y54.2.2.2.1 0) y55.1.toInt64) = 0 then ((f_law_23 xs L fu) y55.2 y54.2.2.1 y54.2.2.2.1 y54.2.2.2.2.1 y54.2.2.2.2.2 (v4 + (6 : Int32))) else (some ((0 : Int32), y55.2, y54.2.2.1, y54.2.2.2.1, y54.2.2.2.2.1, y54.2.2.2.2.2))) else ((f_law_23 xs L fu) y55.2 y54.2.2.1 y54.2.2.2.1 y54.2.2.2.2.1 y54.2.2.2.2.2 (v4 + (6 : Int32)))) else (some ((0 : Int32), y55.2, y54.2.2.1, y54.2.2.2.1, y54.2.2.2.2.1, y54.2.2.2.2.2))) else (if ((xs v4.toNatClampNeg) &&& (63 : Int32)) = (17 : Int32) then (gd (inb (v4 + (1 : Int32)) L) <|
    gd (inb (v4 + (2 : Int32)) L) <|
    gd (inb (v4 + (3 : Int32)) L) <|
    (f_L_flood I P O D n (xs (v4 + (1 : Int32)).toNatClampNeg) (xs (v4 + (2 : Int32)).toNatClampNeg) (xs (v4 + (3 : Int32)).toNatClampNeg)).bind fun y57 =>
    (f_X8_flood y57.2.1 (xs (v4 + (1 : Int32)).toNatClampNeg) (xs (v4 + (2 : Int32)).toNatClampNeg) (xs (v4 + (3 : Int32)).toNatClampNeg)).bind fun y58 =>
    (f_X8_thrown y58.2).bind fun y59 =>
    if y59 = y57.1 then (if y57.1 = 0 then (if (lg_cmp (y57.2.2.2.1 0) y58.1.toInt64) = 0 then ((f_law_23 xs L fu) y58.2 y57.2.2.1 y57.2.2.2.1 y57.2.2.2.2.1 y57.2.2.2.2.2 (v4 + (6 : Int32))) else (some ((0 : Int32), y58.2, y57.2.2.1, y57.2.2.2.1, y57.2.2.2.2.1, y57.2.2.2.2.2))) else ((f_law_23 xs L fu) y58.2 y57.2.2.1 y57.2.2.2.1 y57.2.2.2.2.1 y57.2.2.2.2.2 (v4 + (6 : Int32)))) else (some ((0 : Int32), y58.2, y57.2.2.1, y57.2.2.2.1, y57.2.2.2.2.1, y57.2.2.2.2.2))) else (if ((xs v4.toNatClampNeg) &&& (63 : Int32)) = (18 : Int32) then ((f_X7_undo I).bind fun y60 =>
    (f_X8_undo y60.2).bind fun y61 =>
    if y60.1 = y61.1 then ((f_law_23 xs L fu) y61.2 P O D n (v4 + (6 : Int32))) else (some ((0 : Int32), y61.2, P, O, D, n))) else (if ((xs v4.toNatClampNeg) &&& (63 : Int32)) = (19 : Int32) then (gd (inb (v4 + (1 : Int32)) L) <|
    (f_L_burn I P O D n (xs (v4 + (1 : Int32)).toNatClampNeg)).bind fun y62 =>
    (f_X8_burn y62.2.1 (xs (v4 + (1 : Int32)).toNatClampNeg)).bind fun y63 =>
    (f_X8_thrown y63.2).bind fun y64 =>
    if y64 = y62.1 then (if y62.1 = 0 then (if (lg_cmp (y62.2.2.2.1 0) y63.1.toInt64) = 0 then ((f_law_23 xs L fu) y63.2 y62.2.2.1 y62.2.2.2.1 y62.2.2.2.2.1 y62.2.2.2.2.2 (v4 + (6 : Int32))) else (some ((0 : Int32), y63.2, y62.2.2.1, y62.2.2.2.1, y62.2.2.2.2.1, y62.2.2.2.2.2))) else ((f_law_23 xs L fu) y63.2 y62.2.2.1 y62.2.2.2.1 y62.2.2.2.2.1 y62.2.2.2.2.2 (v4 + (6 : Int32)))) else (some ((0 : Int32), y63.2, y62.2.2.1, y62.2.2.2.1, y62.2.2.2.2.1, y62.2.2.2.2.2))) else (if ((xs v4.toNatClampNeg) &&& (63 : Int32)) = (20 : Int32) then (gd (inb (v4 + (1 : Int32)) L) <|
    gd (inb (v4 + (2 : Int32)) L) <|
    (f_L_when I P O D n (xs (v4 + (1 : Int32)).toNatClampNeg) (xs (v4 + (2 : Int32)).toNatClampNeg)).bind fun y65 =>
    (f_X8_when y65.2.1 (xs (v4 + (1 : Int32)).toNatClampNeg) (xs (v4 + (2 : Int32)).toNatClampNeg)).bind fun y66 =>
    (f_X8_thrown y66.2).bind fun y67 =>
    if y67 = y65.1 then (if y65.1 = 0 then (if (lg_cmp (y65.2.2.2.1 0) y66.1.toInt64) = 0 then ((f_law_23 xs L fu) y66.2 y65.2.2.1 y65.2.2.2.1 y65.2.2.2.2.1 y65.2.2.2.2.2 (v4 + (6 : Int32))) else (some ((0 : Int32), y66.2, y65.2.2.1, y65.2.2.2.1, y65.2.2.2.2.1, y65.2.2.2.2.2))) else ((f_law_23 xs L fu) y66.2 y65.2.2.1 y65.2.2.2.1 y65.2.2.2.2.1 y65.2.2.2.2.2 (v4 + (6 : Int32)))) else (some ((0 : Int32), y66.2, y65.2.2.1, y65.2.2.2.1, y65.2.2.2.2.1, y65.2.2.2.2.2))) else (if ((xs v4.toNatClampNeg) &&& (63 : Int32)) = (21 : Int32) then (gd (inb (v4 + (1 : Int32)) L) <|
    (f_L_round I P O D n (xs (v4 + (1 : Int32)).toNatClampNeg)).bind fun y68 =>
    (f_X8_round y68.2.1 (xs (v4 + (1 : Int32)).toNatClampNeg)).bind fun y69 =>
    (f_X8_thrown y69.2).bind fun y70 =>
    if y70 = y68.1 then (if y68.1 = 0 then (if (lg_cmp (y68.2.2.2.1 0) y69.1.toInt64) = 0 then ((f_law_23 xs L fu) y69.2 y68.2.2.1 y68.2.2.2.1 y68.2.2.2.2.1 y68.2.2.2.2.2 (v4 + (6 : Int32))) else (some ((0 : Int32), y69.2, y68.2.2.1, y68.2.2.2.1, y68.2.2.2.2.1, y68.2.2.2.2.2))) else ((f_law_23 xs L fu) y69.2 y68.2.2.1 y68.2.2.2.1 y68.2.2.2.2.1 y68.2.2.2.2.2 (v4 + (6 : Int32)))) else (some ((0 : Int32), y69.2, y68.2.2.1, y68.2.2.2.1, y68.2.2.2.2.1, y68.2.2.2.2.2))) else (if ((xs v4.toNatClampNeg) &&& (63 : Int32)) = (22 : Int32) then (gd (inb (v4 + (1 : Int32)) L) <|
    gd (inb (v4 + (2 : Int32)) L) <|
    (f_L_free I P O D n (xs (v4 + (1 : Int32)).toNatClampNeg) (xs (v4 + (2 : Int32)).toNatClampNeg)).bind fun y71 =>
    (f_X8_free y71.2.1 (xs (v4 + (1 : Int32)).toNatClampNeg) (xs (v4 + (2 : Int32)).toNatClampNeg)).bind fun y72 =>
    (f_X8_thrown y72.2).bind fun y73 =>
    if y73 = y71.1 then (if y71.1 = 0 then (if (lg_cmp (y71.2.2.2.1 0) y72.1.toInt64) = 0 then ((f_law_23 xs L fu) y72.2 y71.2.2.1 y71.2.2.2.1 y71.2.2.2.2.1 y71.2.2.2.2.2 (v4 + (6 : Int32))) else (some ((0 : Int32), y72.2, y71.2.2.1, y71.2.2.2.1, y71.2.2.2.2.1, y71.2.2.2.2.2))) else ((f_law_23 xs L fu) y72.2 y71.2.2.1 y71.2.2.2.1 y71.2.2.2.2.1 y71.2.2.2.2.2 (v4 + (6 : Int32)))) else (some ((0 : Int32), y72.2, y71.2.2.1, y71.2.2.2.1, y71.2.2.2.2.1, y71.2.2.2.2.2))) else (if ((xs v4.toNatClampNeg) &&& (63 : Int32)) = (23 : Int32) then (gd (inb (v4 + (1 : Int32)) L) <|
    (f_L_mercy I P O D n (xs (v4 + (1 : Int32)).toNatClampNeg)).bind fun y74 =>
    (f_X8_mercy y74.2.1 (xs (v4 + (1 : Int32)).toNatClampNeg)).bind fun y75 =>
    (f_X8_thrown y75.2).bind fun y76 =>
    if y76 = y74.1 then (if y74.1 = 0 then (if (lg_cmp (y74.2.2.2.1 0) y75.1.toInt64) = 0 then ((f_law_23 xs L fu) y75.2 y74.2.2.1 y74.2.2.2.1 y74.2.2.2.2.1 y74.2.2.2.2.2 (v4 + (6 : Int32))) else (some ((0 : Int32), y75.2, y74.2.2.1, y74.2.2.2.1, y74.2.2.2.2.1, y74.2.2.2.2.2))) else ((f_law_23 xs L fu) y75.2 y74.2.2.1 y74.2.2.2.1 y74.2.2.2.2.1 y74.2.2.2.2.2 (v4 + (6 : Int32)))) else (some ((0 : Int32), y75.2, y74.2.2.1, y74.2.2.2.1, y74.2.2.2.2.1, y74.2.2.2.2.2))) else (if ((xs v4.toNatClampNeg) &&& (63 : Int32)) = (24 : Int32) then (gd (inb (v4 + (1 : Int32)) L) <|
    (f_L_deaf I P O D n (xs (v4 + (1 : Int32)).toNatClampNeg)).bind fun y77 =>
    (f_X8_deaf y77.2.1 (xs (v4 + (1 : Int32)).toNatClampNeg)).bind fun y78 =>
    (f_X8_thrown y78.2).bind fun y79 =>
    if y79 = y77.1 then (if y77.1 = 0 then (if (lg_cmp (y77.2.2.2.1 0) y78.1.toInt64) = 0 then ((f_law_23 xs L fu) y78.2 y77.2.2.1 y77.2.2.2.1 y77.2.2.2.2.1 y77.2.2.2.2.2 (v4 + (6 : Int32))) else (some ((0 : Int32), y78.2, y77.2.2.1, y77.2.2.2.1, y77.2.2.2.2.1, y77.2.2.2.2.2))) else ((f_law_23 xs L fu) y78.2 y77.2.2.1 y77.2.2.2.1 y77.2.2.2.2.1 y77.2.2.2.2.2 (v4 + (6 : Int32)))) else (some ((0 : Int32), y78.2, y77.2.2.1, y77.2.2.2.1, y77.2.2.2.2.1, y77.2.2.2.2.2))) else (if ((xs v4.toNatClampNeg) &&& (63 : Int32)) = (25 : Int32) then (gd (inb (v4 + (1 : Int32)) L) <|
    (f_L_soonest I P O D n (xs (v4 + (1 : Int32)).toNatClampNeg)).bind fun y80 =>
    (f_X8_soonest y80.2.1 (xs (v4 + (1 : Int32)).toNatClampNeg)).bind fun y81 =>
    (f_X8_thrown y81.2).bind fun y82 =>
    if y82 = y80.1 then (if y80.1 = 0 then (if (lg_cmp (y80.2.2.2.1 0) y81.1.toInt64) = 0 then ((f_law_23 xs L fu) y81.2 y80.2.2.1 y80.2.2.2.1 y80.2.2.2.2.1 y80.2.2.2.2.2 (v4 + (6 : Int32))) else (some ((0 : Int32), y81.2, y80.2.2.1, y80.2.2.2.1, y80.2.2.2.2.1, y80.2.2.2.2.2))) else ((f_law_23 xs L fu) y81.2 y80.2.2.1 y80.2.2.2.1 y80.2.2.2.2.1 y80.2.2.2.2.2 (v4 + (6 : Int32)))) else (some ((0 : Int32), y81.2, y80.2.2.1, y80.2.2.2.1, y80.2.2.2.2.1, y80.2.2.2.2.2))) else (if ((xs v4.toNatClampNeg) &&& (63 : Int32)) = (26 : Int32) then (gd (inb (v4 + (1 : Int32)) L) <|
    gd (inb (v4 + (2 : Int32)) L) <|
    gd (inb (v4 + (3 : Int32)) L) <|
    if (xs (v4 + (3 : Int32)).toNatClampNeg) = 0 then ((f_L_see I P O D n (xs (v4 + (1 : Int32)).toNatClampNeg) (xs (v4 + (2 : Int32)).toNatClampNeg) (0 : Int32)).bind fun y83 =>
    if (xs (v4 + (3 : Int32)).toNatClampNeg) = 0 then ((f_X8_see y83.2.1 (xs (v4 + (1 : Int32)).toNatClampNeg) (xs (v4 + (2 : Int32)).toNatClampNeg) (0 : Int32)).bind fun y84 =>
    (f_X8_thrown y84.2).bind fun y85 =>
    if y85 = y83.1 then (if y83.1 = 0 then (if (lg_cmp (y83.2.2.2.1 0) y84.1.toInt64) = 0 then ((f_law_23 xs L fu) y84.2 y83.2.2.1 y83.2.2.2.1 y83.2.2.2.2.1 y83.2.2.2.2.2 (v4 + (6 : Int32))) else (some ((0 : Int32), y84.2, y83.2.2.1, y83.2.2.2.1, y83.2.2.2.2.1, y83.2.2.2.2.2))) else ((f_law_23 xs L fu) y84.2 y83.2.2.1 y83.2.2.2.1 y83.2.2.2.2.1 y83.2.2.2.2.2 (v4 + (6 : Int32)))) else (some ((0 : Int32), y84.2, y83.2.2.1, y83.2.2.2.1, y83.2.2.2.2.1, y83.2.2.2.2.2))) else ((f_X8_see y83.2.1 (xs (v4 + (1 : Int32)).toNatClampNeg) (xs (v4 + (2 : Int32)).toNatClampNeg) (1 : Int32)).bind fun y86 =>
    (f_X8_thrown y86.2).bind fun y87 =>
    if y87 = y83.1 then (if y83.1 = 0 then (if (lg_cmp (y83.2.2.2.1 0) y86.1.toInt64) = 0 then ((f_law_23 xs L fu) y86.2 y83.2.2.1 y83.2.2.2.1 y83.2.2.2.2.1 y83.2.2.2.2.2 (v4 + (6 : Int32))) else (some ((0 : Int32), y86.2, y83.2.2.1, y83.2.2.2.1, y83.2.2.2.2.1, y83.2.2.2.2.2))) else ((f_law_23 xs L fu) y86.2 y83.2.2.1 y83.2.2.2.1 y83.2.2.2.2.1 y83.2.2.2.2.2 (v4 + (6 : Int32)))) else (some ((0 : Int32), y86.2, y83.2.2.1, y83.2.2.2.1, y83.2.2.2.2.1, y83.2.2.2.2.2)))) else ((f_L_see I P O D n (xs (v4 + (1 : Int32)).toNatClampNeg) (xs (v4 + (2 : Int32)).toNatClampNeg) (1 : Int32)).bind fun y88 =>
    if (xs (v4 + (3 : Int32)).toNatClampNeg) = 0 then ((f_X8_see y88.2.1 (xs (v4 + (1 : Int32)).toNatClampNeg) (xs (v4 + (2 : Int32)).toNatClampNeg) (0 : Int32)).bind fun y89 =>
    (f_X8_thrown y89.2).bind fun y90 =>
    if y90 = y88.1 then (if y88.1 = 0 then (if (lg_cmp (y88.2.2.2.1 0) y89.1.toInt64) = 0 then ((f_law_23 xs L fu) y89.2 y88.2.2.1 y88.2.2.2.1 y88.2.2.2.2.1 y88.2.2.2.2.2 (v4 + (6 : Int32))) else (some ((0 : Int32), y89.2, y88.2.2.1, y88.2.2.2.1, y88.2.2.2.2.1, y88.2.2.2.2.2))) else ((f_law_23 xs L fu) y89.2 y88.2.2.1 y88.2.2.2.1 y88.2.2.2.2.1 y88.2.2.2.2.2 (v4 + (6 : Int32)))) else (some ((0 : Int32), y89.2, y88.2.2.1, y88.2.2.2.1, y88.2.2.2.2.1, y88.2.2.2.2.2))) else ((f_X8_see y88.2.1 (xs (v4 + (1 : Int32)).toNatClampNeg) (xs (v4 + (2 : Int32)).toNatClampNeg) (1 : Int32)).bind fun y91 =>
    (f_X8_thrown y91.2).bind fun y92 =>
    if y92 = y88.1 then (if y88.1 = 0 then (if (lg_cmp (y88.2.2.2.1 0) y91.1.toInt64) = 0 then ((f_law_23 xs L fu) y91.2 y88.2.2.1 y88.2.2.2.1 y88.2.2.2.2.1 y88.2.2.2.2.2 (v4 + (6 : Int32))) else (some ((0 : Int32), y91.2, y88.2.2.1, y88.2.2.2.1, y88.2.2.2.2.1, y88.2.2.2.2.2))) else ((f_law_23 xs L fu) y91.2 y88.2.2.1 y88.2.2.2.1 y88.2.2.2.2.1 y88.2.2.2.2.2 (v4 + (6 : Int32)))) else (some ((0 : Int32), y91.2, y88.2.2.1, y88.2.2.2.1, y88.2.2.2.2.1, y88.2.2.2.2.2))))) else (if ((xs v4.toNatClampNeg) &&& (63 : Int32)) = (27 : Int32) then ((f_X7_forget I).bind fun y93 =>
    (f_X8_forget y93.2).bind fun y94 =>
    if y93.1 = y94.1 then ((f_law_23 xs L fu) y94.2 P O D n (v4 + (6 : Int32))) else (some ((0 : Int32), y94.2, P, O, D, n))) else (if ((xs v4.toNatClampNeg) &&& (63 : Int32)) = (28 : Int32) then (gd (inb (v4 + (1 : Int32)) L) <|
    gd (inb (v4 + (2 : Int32)) L) <|
    (f_L_sent I P O D n (xs (v4 + (1 : Int32)).toNatClampNeg) (xs (v4 + (2 : Int32)).toNatClampNeg)).bind fun y95 =>
    (f_X8_sent y95.2.1 (xs (v4 + (1 : Int32)).toNatClampNeg) (xs (v4 + (2 : Int32)).toNatClampNeg)).bind fun y96 =>
    (f_X8_thrown y96.2).bind fun y97 =>
    if y97 = y95.1 then (if y95.1 = 0 then (if (lg_cmp (y95.2.2.2.1 0) y96.1.toInt64) = 0 then ((f_law_23 xs L fu) y96.2 y95.2.2.1 y95.2.2.2.1 y95.2.2.2.2.1 y95.2.2.2.2.2 (v4 + (6 : Int32))) else (some ((0 : Int32), y96.2, y95.2.2.1, y95.2.2.2.1, y95.2.2.2.2.1, y95.2.2.2.2.2))) else ((f_law_23 xs L fu) y96.2 y95.2.2.1 y95.2.2.2.1 y95.2.2.2.2.1 y95.2.2.2.2.2 (v4 + (6 : Int32)))) else (some ((0 : Int32), y96.2, y95.2.2.1, y95.2.2.2.1, y95.2.2.2.2.1, y95.2.2.2.2.2))) else (if ((xs v4.toNatClampNeg) &&& (63 : Int32)) = (29 : Int32) then (gd (inb (v4 + (1 : Int32)) L) <|
    gd (inb (v4 + (2 : Int32)) L) <|
    (f_L_game I P O D n (xs (v4 + (1 : Int32)).toNatClampNeg) (xs (v4 + (2 : Int32)).toNatClampNeg)).bind fun y98 =>
    (f_X8_game y98.2.1 (xs (v4 + (1 : Int32)).toNatClampNeg) (xs (v4 + (2 : Int32)).toNatClampNeg)).bind fun y99 =>
    (f_X8_thrown y99.2).bind fun y100 =>
    if y100 = y98.1 then (if y98.1 = 0 then (if (lg_cmp (y98.2.2.2.1 0) y99.1.toInt64) = 0 then ((f_law_23 xs L fu) y99.2 y98.2.2.1 y98.2.2.2.1 y98.2.2.2.2.1 y98.2.2.2.2.2 (v4 + (6 : Int32))) else (some ((0 : Int32), y99.2, y98.2.2.1, y98.2.2.2.1, y98.2.2.2.2.1, y98.2.2.2.2.2))) else ((f_law_23 xs L fu) y99.2 y98.2.2.1 y98.2.2.2.1 y98.2.2.2.2.1 y98.2.2.2.2.2 (v4 + (6 : Int32)))) else (some ((0 : Int32), y99.2, y98.2.2.1, y98.2.2.2.1, y98.2.2.2.2.1, y98.2.2.2.2.2))) else (if ((xs v4.toNatClampNeg) &&& (63 : Int32)) = (30 : Int32) then (gd (inb (v4 + (1 : Int32)) L) <|
    gd (inb (v4 + (2 : Int32)) L) <|
    gd (inb (v4 + (3 : Int32)) L) <|
    (f_L_season I P O D n (xs (v4 + (1 : Int32)).toNatClampNeg) (xs (v4 + (2 : Int32)).toNatClampNeg) (xs (v4 + (3 : Int32)).toNatClampNeg)).bind fun y101 =>
    (f_X8_season y101.2.1 (xs (v4 + (1 : Int32)).toNatClampNeg) (xs (v4 + (2 : Int32)).toNatClampNeg) (xs (v4 + (3 : Int32)).toNatClampNeg)).bind fun y102 =>
    (f_X8_thrown y102.2).bind fun y103 =>
    if y103 = y101.1 then (if y101.1 = 0 then (if (lg_cmp (y101.2.2.2.1 0) y102.1.toInt64) = 0 then ((f_law_23 xs L fu) y102.2 y101.2.2.1 y101.2.2.2.1 y101.2.2.2.2.1 y101.2.2.2.2.2 (v4 + (6 : Int32))) else (some ((0 : Int32), y102.2, y101.2.2.1, y101.2.2.2.1, y101.2.2.2.2.1, y101.2.2.2.2.2))) else ((f_law_23 xs L fu) y102.2 y101.2.2.1 y101.2.2.2.1 y101.2.2.2.2.1 y101.2.2.2.2.2 (v4 + (6 : Int32)))) else (some ((0 : Int32), y102.2, y101.2.2.1, y101.2.2.2.1, y101.2.2.2.2.1, y101.2.2.2.2.2))) else (if ((xs v4.toNatClampNeg) &&& (63 : Int32)) = (31 : Int32) then ((f_X7_image I).bind fun y104 =>
    (f_X8_image y104).bind fun y105 =>
    (f_law_23 xs L fu) y105 P O D n (v4 + (6 : Int32))) else (if ((xs v4.toNatClampNeg) &&& (63 : Int32)) = (32 : Int32) then ((f_X7_restore I).bind fun y106 =>
    (f_X8_restore y106.2).bind fun y107 =>
    if y106.1 = y107.1 then ((f_law_23 xs L fu) y107.2 P O D n (v4 + (6 : Int32))) else (some ((0 : Int32), y107.2, P, O, D, n))) else ((f_law_23 xs L fu) I P O D n (v4 + (6 : Int32)))))))))))))))))))))))))))))))))))))
theorem b_law_23 (X : CX) (Q : State → Prop) {xs : Nat → Int32} {L : Nat} (hscr : ScrX X xs L) {r : (Int32 × Mem × PMem × (Nat → Int64) × Bool × Nat)} : ∀ (fu : Nat) {I : Mem} {P : PMem} {O : Nat → Int64} {D : Bool} {n : Nat} {v4 : Int32}, f_law_23 xs L fu I P O D n v4 = some r → EndR X cL_law RL 7 (some .boolean) 167 r.2.2.2.2.2 (some (.inl r.1)) r.2.1 r.2.2.1 r.2.2.2.1 r.2.2.2.2.1 Q → Here X cL_law RL 7 (some .boolean) 167 r.2.2.2.2.2 23 [some (.inr (.inr (93, 0, 0))), some (.inr (.inr (7, 0, 0))), some (.inr (.inr (8, 0, 0))), some (.inr (.inr (86, 0, 0))), some (.inl v4), none, none] [] I P O D n Q := by
  intro fu
  induction fu with
  | zero => intro I P O D n v4 h E; cases h
  | succ fu ih =>
  intro I P O D n v4 h E
  have H23 : ∀ (I : Mem) (P : PMem) (O : Nat → Int64) (D : Bool) (n : Nat) (v4 : Int32), f_law_23 xs L fu I P O D n v4 = some r → Here X cL_law RL 7 (some .boolean) 167 r.2.2.2.2.2 23 [some (.inr (.inr (93, 0, 0))), some (.inr (.inr (7, 0, 0))), some (.inr (.inr (8, 0, 0))), some (.inr (.inr (86, 0, 0))), some (.inl v4), none, none] [] I P O D n Q := fun _ _ _ _ _ _ b => ih b E
  simp only [f_law_23] at h
  refine h_iload dL_law_23 rfl ?_
  refine h_aload_n dL_law_25 rfl ?_
  refine h_scrL hscr dL_law_26 ?_
  refine h_bipush (6 : Int32) dL_law_27 k_bipush_6 ?_
  refine h_isub dL_law_29 ?_
  refine h_icmp_gt (tgt := 2217) dL_law_30 (by decide) (fun q1 => ?_) (fun q1 => ?_)
  · rw [if_pos q1] at h
    refine h_iconst (1 : Int32) dL_law_2217 k_iconst_1 ?_
    cases h
    exact h_zret dL_law_2218 rfl rfl E
  · rw [if_neg q1] at h
    refine h_aload_n dL_law_33 rfl ?_
    refine h_iload dL_law_34 rfl ?_
    obtain ⟨g1, h⟩ := gd_some h
    refine h_scr hscr dL_law_36 g1 ?_
    refine h_bipush (63 : Int32) dL_law_37 k_bipush_63 ?_
    refine h_iand dL_law_39 ?_
    by_cases q2 : ((xs v4.toNatClampNeg) &&& (63 : Int32)) = (0 : Int32)
    · rw [if_pos q2] at h
      refine h_tswIn (tgt := 188) 0 dL_law_40 (by rw [q2]; decide) (by decide) rfl (by decide) ?_
      refine h_aload_n dL_law_188 rfl ?_
      refine h_aload_n dL_law_189 rfl ?_
      refine h_iload dL_law_190 rfl ?_
      refine h_iconst (1 : Int32) dL_law_192 k_iconst_1 ?_
      refine h_iadd dL_law_193 ?_
      obtain ⟨g2, h⟩ := gd_some h
      refine h_scr hscr dL_law_194 g2 ?_
      refine h_aload_n dL_law_195 rfl ?_
      refine h_iload dL_law_196 rfl ?_
      refine h_iconst (2 : Int32) dL_law_198 k_iconst_2 ?_
      refine h_iadd dL_law_199 ?_
      obtain ⟨g3, h⟩ := gd_some h
      refine h_scr hscr dL_law_200 g3 ?_
      refine h_aload_n dL_law_201 rfl ?_
      refine h_iload dL_law_202 rfl ?_
      refine h_iconst (3 : Int32) dL_law_204 k_iconst_3 ?_
      refine h_iadd dL_law_205 ?_
      obtain ⟨g4, h⟩ := gd_some h
      refine h_scr hscr dL_law_206 g4 ?_
      refine h_aload_n dL_law_207 rfl ?_
      refine h_iload dL_law_208 rfl ?_
      refine h_iconst (4 : Int32) dL_law_210 k_iconst_4 ?_
      refine h_iadd dL_law_211 ?_
      obtain ⟨g5, h⟩ := gd_some h
      refine h_scr hscr dL_law_212 g5 ?_
      refine h_aload_n dL_law_213 rfl ?_
      refine h_iload dL_law_214 rfl ?_
      refine h_iconst (5 : Int32) dL_law_216 k_iconst_5 ?_
      refine h_iadd dL_law_217 ?_
      obtain ⟨g6, h⟩ := gd_some h
      refine h_scr hscr dL_law_218 g6 ?_
      obtain ⟨y1, hh1, h⟩ := obd_some h
      refine h_cVi [.inl (xs (v4 + (1 : Int32)).toNatClampNeg), .inl (xs (v4 + (2 : Int32)).toNatClampNeg), .inl (xs (v4 + (3 : Int32)).toNatClampNeg), .inl (xs (v4 + (4 : Int32)).toNatClampNeg), .inl (xs (v4 + (5 : Int32)).toNatClampNeg)] (m_X7_feed  hh1) cw_L_103 dL_law_219 rfl ok_7 (by decide) rfl (Or.inr rfl) rfl ?_
      refine h_aload_n dL_law_222 rfl ?_
      refine h_aload_n dL_law_223 rfl ?_
      refine h_iload dL_law_224 rfl ?_
      refine h_iconst (1 : Int32) dL_law_226 k_iconst_1 ?_
      refine h_iadd dL_law_227 ?_
      refine h_scr hscr dL_law_228 g2 ?_
      refine h_aload_n dL_law_229 rfl ?_
      refine h_iload dL_law_230 rfl ?_
      refine h_iconst (2 : Int32) dL_law_232 k_iconst_2 ?_
      refine h_iadd dL_law_233 ?_
      refine h_scr hscr dL_law_234 g3 ?_
      refine h_aload_n dL_law_235 rfl ?_
      refine h_iload dL_law_236 rfl ?_
      refine h_iconst (3 : Int32) dL_law_238 k_iconst_3 ?_
      refine h_iadd dL_law_239 ?_
      refine h_scr hscr dL_law_240 g4 ?_
      refine h_aload_n dL_law_241 rfl ?_
      refine h_iload dL_law_242 rfl ?_
      refine h_iconst (4 : Int32) dL_law_244 k_iconst_4 ?_
      refine h_iadd dL_law_245 ?_
      refine h_scr hscr dL_law_246 g5 ?_
      refine h_aload_n dL_law_247 rfl ?_
      refine h_iload dL_law_248 rfl ?_
      refine h_iconst (5 : Int32) dL_law_250 k_iconst_5 ?_
      refine h_iadd dL_law_251 ?_
      refine h_scr hscr dL_law_252 g6 ?_
      obtain ⟨y2, hh2, h⟩ := obd_some h
      refine h_cVi [.inl (xs (v4 + (1 : Int32)).toNatClampNeg), .inl (xs (v4 + (2 : Int32)).toNatClampNeg), .inl (xs (v4 + (3 : Int32)).toNatClampNeg), .inl (xs (v4 + (4 : Int32)).toNatClampNeg), .inl (xs (v4 + (5 : Int32)).toNatClampNeg)] (m_X8_feed  hh2) cw_L_107 dL_law_253 rfl ok_8 (by decide) rfl (Or.inr rfl) rfl ?_
      refine h_icmp_eq (tgt := 2211) dL_law_256 (by decide) (fun q3 => ?_) (fun q3 => ?_)
      · rw [if_pos q3] at h
        refine h_iinc (6 : Int32) dL_law_2211 rfl k_iinc_6 (by decide) rfl ?_
        refine h_goto (tgt := 23) dL_law_2214 (by decide) ?_
        exact (H23 _ _ _ _ _ _ h)
      · rw [if_neg q3] at h
        refine h_iconst (0 : Int32) dL_law_259 k_iconst_0 ?_
        cases h
        exact h_zret dL_law_260 rfl rfl E
    · rw [if_neg q2] at h
      by_cases q4 : ((xs v4.toNatClampNeg) &&& (63 : Int32)) = (1 : Int32)
      · rw [if_pos q4] at h
        refine h_tswIn (tgt := 261) 1 dL_law_40 (by rw [q4]; decide) (by decide) rfl (by decide) ?_
        refine h_aload_n dL_law_261 rfl ?_
        refine h_aload_n dL_law_262 rfl ?_
        refine h_iload dL_law_263 rfl ?_
        refine h_iconst (1 : Int32) dL_law_265 k_iconst_1 ?_
        refine h_iadd dL_law_266 ?_
        obtain ⟨g7, h⟩ := gd_some h
        refine h_scr hscr dL_law_267 g7 ?_
        refine h_aload_n dL_law_268 rfl ?_
        obtain ⟨y3, hh3, h⟩ := obd_some h
        refine h_callSW [.inr (.inr (7, 0, 0)), .inl (xs (v4 + (1 : Int32)).toNatClampNeg), .inr (.inr (86, 0, 0))] (m_L_land hh3) cx_L_108 dL_law_269 rfl (by decide) rfl (Or.inl rfl) rfl ?_
        refine h_istore dL_law_272 (by decide) rfl ?_
        refine h_aload_n dL_law_274 rfl ?_
        refine h_aload_n dL_law_275 rfl ?_
        refine h_iload dL_law_276 rfl ?_
        refine h_iconst (1 : Int32) dL_law_278 k_iconst_1 ?_
        refine h_iadd dL_law_279 ?_
        refine h_scr hscr dL_law_280 g7 ?_
        obtain ⟨y4, hh4, h⟩ := obd_some h
        refine h_cVi [.inl (xs (v4 + (1 : Int32)).toNatClampNeg)] (m_X8_land  hh4) cw_L_113 dL_law_281 rfl ok_8 (by decide) rfl (Or.inr rfl) rfl ?_
        refine h_istore dL_law_284 (by decide) rfl ?_
        refine h_aload_n dL_law_286 rfl ?_
        obtain ⟨y5, hh5, h⟩ := obd_some h
        refine h_cVi [] (m_X8_thrown  hh5) cw_L_114 dL_law_287 rfl ok_8 (by decide) rfl (Or.inr rfl) rfl ?_
        refine h_iload dL_law_290 rfl ?_
        refine h_icmp_eq (tgt := 297) dL_law_292 (by decide) (fun q5 => ?_) (fun q5 => ?_)
        · rw [if_pos q5] at h
          refine h_iload dL_law_297 rfl ?_
          refine h_if_ne (tgt := 314) dL_law_299 (by decide) (fun q6 => ?_) (fun q6 => ?_)
          · rw [if_neg q6] at h
            refine h_goto (tgt := 2211) dL_law_314 (by decide) ?_
            refine h_iinc (6 : Int32) dL_law_2211 rfl k_iinc_6 (by decide) rfl ?_
            refine h_goto (tgt := 23) dL_law_2214 (by decide) ?_
            exact h_mask [true, true, true, true, true, false, false] (H23 _ _ _ _ _ _ h)
          · rw [if_pos q6] at h
            refine h_aload_n dL_law_302 rfl ?_
            refine h_iconst (0 : Int32) dL_law_303 k_iconst_0 ?_
            refine h_lald0 dL_law_304 ?_
            refine h_iload dL_law_305 rfl ?_
            refine h_i2l dL_law_307 ?_
            refine h_lcmp dL_law_308 ?_
            refine h_if_eq (tgt := 314) dL_law_309 (by decide) (fun q7 => ?_) (fun q7 => ?_)
            · rw [if_pos q7] at h
              refine h_goto (tgt := 2211) dL_law_314 (by decide) ?_
              refine h_iinc (6 : Int32) dL_law_2211 rfl k_iinc_6 (by decide) rfl ?_
              refine h_goto (tgt := 23) dL_law_2214 (by decide) ?_
              exact h_mask [true, true, true, true, true, false, false] (H23 _ _ _ _ _ _ h)
            · rw [if_neg q7] at h
              refine h_iconst (0 : Int32) dL_law_312 k_iconst_0 ?_
              cases h
              exact h_zret dL_law_313 rfl rfl E
        · rw [if_neg q5] at h
          refine h_iconst (0 : Int32) dL_law_295 k_iconst_0 ?_
          cases h
          exact h_zret dL_law_296 rfl rfl E
      · rw [if_neg q4] at h
        by_cases q8 : ((xs v4.toNatClampNeg) &&& (63 : Int32)) = (2 : Int32)
        · rw [if_pos q8] at h
          refine h_tswIn (tgt := 317) 2 dL_law_40 (by rw [q8]; decide) (by decide) rfl (by decide) ?_
          refine h_aload_n dL_law_317 rfl ?_
          obtain ⟨y6, hh6, h⟩ := obd_some h
          refine h_cVi [] (m_X7_fault  hh6) cw_L_118 dL_law_318 rfl ok_7 (by decide) rfl (Or.inr rfl) rfl ?_
          refine h_aload_n dL_law_321 rfl ?_
          obtain ⟨y7, hh7, h⟩ := obd_some h
          refine h_cVi [] (m_X8_fault  hh7) cw_L_121 dL_law_322 rfl ok_8 (by decide) rfl (Or.inr rfl) rfl ?_
          refine h_icmp_eq (tgt := 2211) dL_law_325 (by decide) (fun q9 => ?_) (fun q9 => ?_)
          · rw [if_pos q9] at h
            refine h_iinc (6 : Int32) dL_law_2211 rfl k_iinc_6 (by decide) rfl ?_
            refine h_goto (tgt := 23) dL_law_2214 (by decide) ?_
            exact (H23 _ _ _ _ _ _ h)
          · rw [if_neg q9] at h
            refine h_iconst (0 : Int32) dL_law_328 k_iconst_0 ?_
            cases h
            exact h_zret dL_law_329 rfl rfl E
        · rw [if_neg q8] at h
          by_cases q10 : ((xs v4.toNatClampNeg) &&& (63 : Int32)) = (3 : Int32)
          · rw [if_pos q10] at h
            refine h_tswIn (tgt := 330) 3 dL_law_40 (by rw [q10]; decide) (by decide) rfl (by decide) ?_
            refine h_aload_n dL_law_330 rfl ?_
            refine h_aload_n dL_law_331 rfl ?_
            refine h_iload dL_law_332 rfl ?_
            refine h_iconst (1 : Int32) dL_law_334 k_iconst_1 ?_
            refine h_iadd dL_law_335 ?_
            obtain ⟨g8, h⟩ := gd_some h
            refine h_scr hscr dL_law_336 g8 ?_
            refine h_aload_n dL_law_337 rfl ?_
            obtain ⟨y8, hh8, h⟩ := obd_some h
            refine h_callSW [.inr (.inr (7, 0, 0)), .inl (xs (v4 + (1 : Int32)).toNatClampNeg), .inr (.inr (86, 0, 0))] (m_L_count hh8) cx_L_122 dL_law_338 rfl (by decide) rfl (Or.inl rfl) rfl ?_
            refine h_istore dL_law_341 (by decide) rfl ?_
            refine h_aload_n dL_law_343 rfl ?_
            refine h_aload_n dL_law_344 rfl ?_
            refine h_iload dL_law_345 rfl ?_
            refine h_iconst (1 : Int32) dL_law_347 k_iconst_1 ?_
            refine h_iadd dL_law_348 ?_
            refine h_scr hscr dL_law_349 g8 ?_
            obtain ⟨y9, hh9, h⟩ := obd_some h
            refine h_cVi [.inl (xs (v4 + (1 : Int32)).toNatClampNeg)] (m_X8_count  hh9) cw_L_124 dL_law_350 rfl ok_8 (by decide) rfl (Or.inr rfl) rfl ?_
            refine h_istore dL_law_353 (by decide) rfl ?_
            refine h_aload_n dL_law_355 rfl ?_
            obtain ⟨y10, hh10, h⟩ := obd_some h
            refine h_cVi [] (m_X8_thrown  hh10) cw_L_114 dL_law_356 rfl ok_8 (by decide) rfl (Or.inr rfl) rfl ?_
            refine h_iload dL_law_359 rfl ?_
            refine h_icmp_eq (tgt := 366) dL_law_361 (by decide) (fun q11 => ?_) (fun q11 => ?_)
            · rw [if_pos q11] at h
              refine h_iload dL_law_366 rfl ?_
              refine h_if_ne (tgt := 383) dL_law_368 (by decide) (fun q12 => ?_) (fun q12 => ?_)
              · rw [if_neg q12] at h
                refine h_goto (tgt := 2211) dL_law_383 (by decide) ?_
                refine h_iinc (6 : Int32) dL_law_2211 rfl k_iinc_6 (by decide) rfl ?_
                refine h_goto (tgt := 23) dL_law_2214 (by decide) ?_
                exact h_mask [true, true, true, true, true, false, false] (H23 _ _ _ _ _ _ h)
              · rw [if_pos q12] at h
                refine h_aload_n dL_law_371 rfl ?_
                refine h_iconst (0 : Int32) dL_law_372 k_iconst_0 ?_
                refine h_lald0 dL_law_373 ?_
                refine h_iload dL_law_374 rfl ?_
                refine h_i2l dL_law_376 ?_
                refine h_lcmp dL_law_377 ?_
                refine h_if_eq (tgt := 383) dL_law_378 (by decide) (fun q13 => ?_) (fun q13 => ?_)
                · rw [if_pos q13] at h
                  refine h_goto (tgt := 2211) dL_law_383 (by decide) ?_
                  refine h_iinc (6 : Int32) dL_law_2211 rfl k_iinc_6 (by decide) rfl ?_
                  refine h_goto (tgt := 23) dL_law_2214 (by decide) ?_
                  exact h_mask [true, true, true, true, true, false, false] (H23 _ _ _ _ _ _ h)
                · rw [if_neg q13] at h
                  refine h_iconst (0 : Int32) dL_law_381 k_iconst_0 ?_
                  cases h
                  exact h_zret dL_law_382 rfl rfl E
            · rw [if_neg q11] at h
              refine h_iconst (0 : Int32) dL_law_364 k_iconst_0 ?_
              cases h
              exact h_zret dL_law_365 rfl rfl E
          · rw [if_neg q10] at h
            by_cases q14 : ((xs v4.toNatClampNeg) &&& (63 : Int32)) = (4 : Int32)
            · rw [if_pos q14] at h
              refine h_tswIn (tgt := 386) 4 dL_law_40 (by rw [q14]; decide) (by decide) rfl (by decide) ?_
              refine h_aload_n dL_law_386 rfl ?_
              refine h_aload_n dL_law_387 rfl ?_
              refine h_iload dL_law_388 rfl ?_
              refine h_iconst (1 : Int32) dL_law_390 k_iconst_1 ?_
              refine h_iadd dL_law_391 ?_
              obtain ⟨g9, h⟩ := gd_some h
              refine h_scr hscr dL_law_392 g9 ?_
              refine h_aload_n dL_law_393 rfl ?_
              refine h_iload dL_law_394 rfl ?_
              refine h_iconst (2 : Int32) dL_law_396 k_iconst_2 ?_
              refine h_iadd dL_law_397 ?_
              obtain ⟨g10, h⟩ := gd_some h
              refine h_scr hscr dL_law_398 g10 ?_
              refine h_aload_n dL_law_399 rfl ?_
              refine h_iload dL_law_400 rfl ?_
              refine h_iconst (3 : Int32) dL_law_402 k_iconst_3 ?_
              refine h_iadd dL_law_403 ?_
              obtain ⟨g11, h⟩ := gd_some h
              refine h_scr hscr dL_law_404 g11 ?_
              refine h_aload_n dL_law_405 rfl ?_
              obtain ⟨y11, hh11, h⟩ := obd_some h
              refine h_callSW [.inr (.inr (7, 0, 0)), .inl (xs (v4 + (1 : Int32)).toNatClampNeg), .inl (xs (v4 + (2 : Int32)).toNatClampNeg), .inl (xs (v4 + (3 : Int32)).toNatClampNeg), .inr (.inr (86, 0, 0))] (m_L_far hh11) cx_L_125 dL_law_406 rfl (by decide) rfl (Or.inl rfl) rfl ?_
              refine h_istore dL_law_409 (by decide) rfl ?_
              refine h_aload_n dL_law_411 rfl ?_
              refine h_aload_n dL_law_412 rfl ?_
              refine h_iload dL_law_413 rfl ?_
              refine h_iconst (1 : Int32) dL_law_415 k_iconst_1 ?_
              refine h_iadd dL_law_416 ?_
              refine h_scr hscr dL_law_417 g9 ?_
              refine h_aload_n dL_law_418 rfl ?_
              refine h_iload dL_law_419 rfl ?_
              refine h_iconst (2 : Int32) dL_law_421 k_iconst_2 ?_
              refine h_iadd dL_law_422 ?_
              refine h_scr hscr dL_law_423 g10 ?_
              refine h_aload_n dL_law_424 rfl ?_
              refine h_iload dL_law_425 rfl ?_
              refine h_iconst (3 : Int32) dL_law_427 k_iconst_3 ?_
              refine h_iadd dL_law_428 ?_
              refine h_scr hscr dL_law_429 g11 ?_
              obtain ⟨y12, hh12, h⟩ := obd_some h
              refine h_cVi [.inl (xs (v4 + (1 : Int32)).toNatClampNeg), .inl (xs (v4 + (2 : Int32)).toNatClampNeg), .inl (xs (v4 + (3 : Int32)).toNatClampNeg)] (m_X8_far  hh12) cw_L_128 dL_law_430 rfl ok_8 (by decide) rfl (Or.inr rfl) rfl ?_
              refine h_istore dL_law_433 (by decide) rfl ?_
              refine h_aload_n dL_law_435 rfl ?_
              obtain ⟨y13, hh13, h⟩ := obd_some h
              refine h_cVi [] (m_X8_thrown  hh13) cw_L_114 dL_law_436 rfl ok_8 (by decide) rfl (Or.inr rfl) rfl ?_
              refine h_iload dL_law_439 rfl ?_
              refine h_icmp_eq (tgt := 446) dL_law_441 (by decide) (fun q15 => ?_) (fun q15 => ?_)
              · rw [if_pos q15] at h
                refine h_iload dL_law_446 rfl ?_
                refine h_if_ne (tgt := 463) dL_law_448 (by decide) (fun q16 => ?_) (fun q16 => ?_)
                · rw [if_neg q16] at h
                  refine h_goto (tgt := 2211) dL_law_463 (by decide) ?_
                  refine h_iinc (6 : Int32) dL_law_2211 rfl k_iinc_6 (by decide) rfl ?_
                  refine h_goto (tgt := 23) dL_law_2214 (by decide) ?_
                  exact h_mask [true, true, true, true, true, false, false] (H23 _ _ _ _ _ _ h)
                · rw [if_pos q16] at h
                  refine h_aload_n dL_law_451 rfl ?_
                  refine h_iconst (0 : Int32) dL_law_452 k_iconst_0 ?_
                  refine h_lald0 dL_law_453 ?_
                  refine h_iload dL_law_454 rfl ?_
                  refine h_i2l dL_law_456 ?_
                  refine h_lcmp dL_law_457 ?_
                  refine h_if_eq (tgt := 463) dL_law_458 (by decide) (fun q17 => ?_) (fun q17 => ?_)
                  · rw [if_pos q17] at h
                    refine h_goto (tgt := 2211) dL_law_463 (by decide) ?_
                    refine h_iinc (6 : Int32) dL_law_2211 rfl k_iinc_6 (by decide) rfl ?_
                    refine h_goto (tgt := 23) dL_law_2214 (by decide) ?_
                    exact h_mask [true, true, true, true, true, false, false] (H23 _ _ _ _ _ _ h)
                  · rw [if_neg q17] at h
                    refine h_iconst (0 : Int32) dL_law_461 k_iconst_0 ?_
                    cases h
                    exact h_zret dL_law_462 rfl rfl E
              · rw [if_neg q15] at h
                refine h_iconst (0 : Int32) dL_law_444 k_iconst_0 ?_
                cases h
                exact h_zret dL_law_445 rfl rfl E
            · rw [if_neg q14] at h
              by_cases q18 : ((xs v4.toNatClampNeg) &&& (63 : Int32)) = (5 : Int32)
              · rw [if_pos q18] at h
                refine h_tswIn (tgt := 466) 5 dL_law_40 (by rw [q18]; decide) (by decide) rfl (by decide) ?_
                refine h_aload_n dL_law_466 rfl ?_
                refine h_aload_n dL_law_467 rfl ?_
                refine h_iload dL_law_468 rfl ?_
                refine h_iconst (1 : Int32) dL_law_470 k_iconst_1 ?_
                refine h_iadd dL_law_471 ?_
                obtain ⟨g12, h⟩ := gd_some h
                refine h_scr hscr dL_law_472 g12 ?_
                refine h_aload_n dL_law_473 rfl ?_
                refine h_iload dL_law_474 rfl ?_
                refine h_iconst (2 : Int32) dL_law_476 k_iconst_2 ?_
                refine h_iadd dL_law_477 ?_
                obtain ⟨g13, h⟩ := gd_some h
                refine h_scr hscr dL_law_478 g13 ?_
                refine h_aload_n dL_law_479 rfl ?_
                obtain ⟨y14, hh14, h⟩ := obd_some h
                refine h_callSW [.inr (.inr (7, 0, 0)), .inl (xs (v4 + (1 : Int32)).toNatClampNeg), .inl (xs (v4 + (2 : Int32)).toNatClampNeg), .inr (.inr (86, 0, 0))] (m_L_judge hh14) cx_L_129 dL_law_480 rfl (by decide) rfl (Or.inl rfl) rfl ?_
                refine h_istore dL_law_483 (by decide) rfl ?_
                refine h_aload_n dL_law_485 rfl ?_
                refine h_aload_n dL_law_486 rfl ?_
                refine h_iload dL_law_487 rfl ?_
                refine h_iconst (1 : Int32) dL_law_489 k_iconst_1 ?_
                refine h_iadd dL_law_490 ?_
                refine h_scr hscr dL_law_491 g12 ?_
                refine h_aload_n dL_law_492 rfl ?_
                refine h_iload dL_law_493 rfl ?_
                refine h_iconst (2 : Int32) dL_law_495 k_iconst_2 ?_
                refine h_iadd dL_law_496 ?_
                refine h_scr hscr dL_law_497 g13 ?_
                obtain ⟨y15, hh15, h⟩ := obd_some h
                refine h_cVi [.inl (xs (v4 + (1 : Int32)).toNatClampNeg), .inl (xs (v4 + (2 : Int32)).toNatClampNeg)] (m_X8_judge  hh15) cw_L_132 dL_law_498 rfl ok_8 (by decide) rfl (Or.inr rfl) rfl ?_
                refine h_istore dL_law_501 (by decide) rfl ?_
                refine h_aload_n dL_law_503 rfl ?_
                obtain ⟨y16, hh16, h⟩ := obd_some h
                refine h_cVi [] (m_X8_thrown  hh16) cw_L_114 dL_law_504 rfl ok_8 (by decide) rfl (Or.inr rfl) rfl ?_
                refine h_iload dL_law_507 rfl ?_
                refine h_icmp_eq (tgt := 514) dL_law_509 (by decide) (fun q19 => ?_) (fun q19 => ?_)
                · rw [if_pos q19] at h
                  refine h_iload dL_law_514 rfl ?_
                  refine h_if_ne (tgt := 531) dL_law_516 (by decide) (fun q20 => ?_) (fun q20 => ?_)
                  · rw [if_neg q20] at h
                    refine h_goto (tgt := 2211) dL_law_531 (by decide) ?_
                    refine h_iinc (6 : Int32) dL_law_2211 rfl k_iinc_6 (by decide) rfl ?_
                    refine h_goto (tgt := 23) dL_law_2214 (by decide) ?_
                    exact h_mask [true, true, true, true, true, false, false] (H23 _ _ _ _ _ _ h)
                  · rw [if_pos q20] at h
                    refine h_aload_n dL_law_519 rfl ?_
                    refine h_iconst (0 : Int32) dL_law_520 k_iconst_0 ?_
                    refine h_lald0 dL_law_521 ?_
                    refine h_iload dL_law_522 rfl ?_
                    refine h_i2l dL_law_524 ?_
                    refine h_lcmp dL_law_525 ?_
                    refine h_if_eq (tgt := 531) dL_law_526 (by decide) (fun q21 => ?_) (fun q21 => ?_)
                    · rw [if_pos q21] at h
                      refine h_goto (tgt := 2211) dL_law_531 (by decide) ?_
                      refine h_iinc (6 : Int32) dL_law_2211 rfl k_iinc_6 (by decide) rfl ?_
                      refine h_goto (tgt := 23) dL_law_2214 (by decide) ?_
                      exact h_mask [true, true, true, true, true, false, false] (H23 _ _ _ _ _ _ h)
                    · rw [if_neg q21] at h
                      refine h_iconst (0 : Int32) dL_law_529 k_iconst_0 ?_
                      cases h
                      exact h_zret dL_law_530 rfl rfl E
                · rw [if_neg q19] at h
                  refine h_iconst (0 : Int32) dL_law_512 k_iconst_0 ?_
                  cases h
                  exact h_zret dL_law_513 rfl rfl E
              · rw [if_neg q18] at h
                by_cases q22 : ((xs v4.toNatClampNeg) &&& (63 : Int32)) = (6 : Int32)
                · rw [if_pos q22] at h
                  refine h_tswIn (tgt := 534) 6 dL_law_40 (by rw [q22]; decide) (by decide) rfl (by decide) ?_
                  refine h_aload_n dL_law_534 rfl ?_
                  refine h_aload_n dL_law_535 rfl ?_
                  refine h_iload dL_law_536 rfl ?_
                  refine h_iconst (1 : Int32) dL_law_538 k_iconst_1 ?_
                  refine h_iadd dL_law_539 ?_
                  obtain ⟨g14, h⟩ := gd_some h
                  refine h_scr hscr dL_law_540 g14 ?_
                  refine h_aload_n dL_law_541 rfl ?_
                  refine h_iload dL_law_542 rfl ?_
                  refine h_iconst (2 : Int32) dL_law_544 k_iconst_2 ?_
                  refine h_iadd dL_law_545 ?_
                  obtain ⟨g15, h⟩ := gd_some h
                  refine h_scr hscr dL_law_546 g15 ?_
                  refine h_aload_n dL_law_547 rfl ?_
                  refine h_iload dL_law_548 rfl ?_
                  refine h_iconst (3 : Int32) dL_law_550 k_iconst_3 ?_
                  refine h_iadd dL_law_551 ?_
                  obtain ⟨g16, h⟩ := gd_some h
                  refine h_scr hscr dL_law_552 g16 ?_
                  refine h_aload_n dL_law_553 rfl ?_
                  obtain ⟨y17, hh17, h⟩ := obd_some h
                  refine h_callSW [.inr (.inr (7, 0, 0)), .inl (xs (v4 + (1 : Int32)).toNatClampNeg), .inl (xs (v4 + (2 : Int32)).toNatClampNeg), .inl (xs (v4 + (3 : Int32)).toNatClampNeg), .inr (.inr (86, 0, 0))] (m_L_stop hh17) cx_L_133 dL_law_554 rfl (by decide) rfl (Or.inl rfl) rfl ?_
                  refine h_istore dL_law_557 (by decide) rfl ?_
                  refine h_aload_n dL_law_559 rfl ?_
                  refine h_aload_n dL_law_560 rfl ?_
                  refine h_iload dL_law_561 rfl ?_
                  refine h_iconst (1 : Int32) dL_law_563 k_iconst_1 ?_
                  refine h_iadd dL_law_564 ?_
                  refine h_scr hscr dL_law_565 g14 ?_
                  refine h_aload_n dL_law_566 rfl ?_
                  refine h_iload dL_law_567 rfl ?_
                  refine h_iconst (2 : Int32) dL_law_569 k_iconst_2 ?_
                  refine h_iadd dL_law_570 ?_
                  refine h_scr hscr dL_law_571 g15 ?_
                  refine h_aload_n dL_law_572 rfl ?_
                  refine h_iload dL_law_573 rfl ?_
                  refine h_iconst (3 : Int32) dL_law_575 k_iconst_3 ?_
                  refine h_iadd dL_law_576 ?_
                  refine h_scr hscr dL_law_577 g16 ?_
                  obtain ⟨y18, hh18, h⟩ := obd_some h
                  refine h_cVi [.inl (xs (v4 + (1 : Int32)).toNatClampNeg), .inl (xs (v4 + (2 : Int32)).toNatClampNeg), .inl (xs (v4 + (3 : Int32)).toNatClampNeg)] (m_X8_stop  hh18) cw_L_135 dL_law_578 rfl ok_8 (by decide) rfl (Or.inr rfl) rfl ?_
                  refine h_istore dL_law_581 (by decide) rfl ?_
                  refine h_aload_n dL_law_583 rfl ?_
                  obtain ⟨y19, hh19, h⟩ := obd_some h
                  refine h_cVi [] (m_X8_thrown  hh19) cw_L_114 dL_law_584 rfl ok_8 (by decide) rfl (Or.inr rfl) rfl ?_
                  refine h_iload dL_law_587 rfl ?_
                  refine h_icmp_eq (tgt := 594) dL_law_589 (by decide) (fun q23 => ?_) (fun q23 => ?_)
                  · rw [if_pos q23] at h
                    refine h_iload dL_law_594 rfl ?_
                    refine h_if_ne (tgt := 611) dL_law_596 (by decide) (fun q24 => ?_) (fun q24 => ?_)
                    · rw [if_neg q24] at h
                      refine h_goto (tgt := 2211) dL_law_611 (by decide) ?_
                      refine h_iinc (6 : Int32) dL_law_2211 rfl k_iinc_6 (by decide) rfl ?_
                      refine h_goto (tgt := 23) dL_law_2214 (by decide) ?_
                      exact h_mask [true, true, true, true, true, false, false] (H23 _ _ _ _ _ _ h)
                    · rw [if_pos q24] at h
                      refine h_aload_n dL_law_599 rfl ?_
                      refine h_iconst (0 : Int32) dL_law_600 k_iconst_0 ?_
                      refine h_lald0 dL_law_601 ?_
                      refine h_iload dL_law_602 rfl ?_
                      refine h_i2l dL_law_604 ?_
                      refine h_lcmp dL_law_605 ?_
                      refine h_if_eq (tgt := 611) dL_law_606 (by decide) (fun q25 => ?_) (fun q25 => ?_)
                      · rw [if_pos q25] at h
                        refine h_goto (tgt := 2211) dL_law_611 (by decide) ?_
                        refine h_iinc (6 : Int32) dL_law_2211 rfl k_iinc_6 (by decide) rfl ?_
                        refine h_goto (tgt := 23) dL_law_2214 (by decide) ?_
                        exact h_mask [true, true, true, true, true, false, false] (H23 _ _ _ _ _ _ h)
                      · rw [if_neg q25] at h
                        refine h_iconst (0 : Int32) dL_law_609 k_iconst_0 ?_
                        cases h
                        exact h_zret dL_law_610 rfl rfl E
                  · rw [if_neg q23] at h
                    refine h_iconst (0 : Int32) dL_law_592 k_iconst_0 ?_
                    cases h
                    exact h_zret dL_law_593 rfl rfl E
                · rw [if_neg q22] at h
                  by_cases q26 : ((xs v4.toNatClampNeg) &&& (63 : Int32)) = (7 : Int32)
                  · rw [if_pos q26] at h
                    refine h_tswIn (tgt := 614) 7 dL_law_40 (by rw [q26]; decide) (by decide) rfl (by decide) ?_
                    refine h_aload_n dL_law_614 rfl ?_
                    refine h_aload_n dL_law_615 rfl ?_
                    refine h_iload dL_law_616 rfl ?_
                    refine h_iconst (1 : Int32) dL_law_618 k_iconst_1 ?_
                    refine h_iadd dL_law_619 ?_
                    obtain ⟨g17, h⟩ := gd_some h
                    refine h_scr hscr dL_law_620 g17 ?_
                    refine h_aload_n dL_law_621 rfl ?_
                    refine h_iload dL_law_622 rfl ?_
                    refine h_iconst (2 : Int32) dL_law_624 k_iconst_2 ?_
                    refine h_iadd dL_law_625 ?_
                    obtain ⟨g18, h⟩ := gd_some h
                    refine h_scr hscr dL_law_626 g18 ?_
                    refine h_aload_n dL_law_627 rfl ?_
                    obtain ⟨y20, hh20, h⟩ := obd_some h
                    refine h_callSW [.inr (.inr (7, 0, 0)), .inl (xs (v4 + (1 : Int32)).toNatClampNeg), .inl (xs (v4 + (2 : Int32)).toNatClampNeg), .inr (.inr (86, 0, 0))] (m_L_where hh20) cx_L_136 dL_law_628 rfl (by decide) rfl (Or.inl rfl) rfl ?_
                    refine h_istore dL_law_631 (by decide) rfl ?_
                    refine h_aload_n dL_law_633 rfl ?_
                    refine h_aload_n dL_law_634 rfl ?_
                    refine h_iload dL_law_635 rfl ?_
                    refine h_iconst (1 : Int32) dL_law_637 k_iconst_1 ?_
                    refine h_iadd dL_law_638 ?_
                    refine h_scr hscr dL_law_639 g17 ?_
                    refine h_aload_n dL_law_640 rfl ?_
                    refine h_iload dL_law_641 rfl ?_
                    refine h_iconst (2 : Int32) dL_law_643 k_iconst_2 ?_
                    refine h_iadd dL_law_644 ?_
                    refine h_scr hscr dL_law_645 g18 ?_
                    obtain ⟨y21, hh21, h⟩ := obd_some h
                    refine h_cVi [.inl (xs (v4 + (1 : Int32)).toNatClampNeg), .inl (xs (v4 + (2 : Int32)).toNatClampNeg)] (m_X8_where  hh21) cw_L_138 dL_law_646 rfl ok_8 (by decide) rfl (Or.inr rfl) rfl ?_
                    refine h_istore dL_law_649 (by decide) rfl ?_
                    refine h_aload_n dL_law_651 rfl ?_
                    obtain ⟨y22, hh22, h⟩ := obd_some h
                    refine h_cVi [] (m_X8_thrown  hh22) cw_L_114 dL_law_652 rfl ok_8 (by decide) rfl (Or.inr rfl) rfl ?_
                    refine h_iload dL_law_655 rfl ?_
                    refine h_icmp_eq (tgt := 662) dL_law_657 (by decide) (fun q27 => ?_) (fun q27 => ?_)
                    · rw [if_pos q27] at h
                      refine h_iload dL_law_662 rfl ?_
                      refine h_if_ne (tgt := 679) dL_law_664 (by decide) (fun q28 => ?_) (fun q28 => ?_)
                      · rw [if_neg q28] at h
                        refine h_goto (tgt := 2211) dL_law_679 (by decide) ?_
                        refine h_iinc (6 : Int32) dL_law_2211 rfl k_iinc_6 (by decide) rfl ?_
                        refine h_goto (tgt := 23) dL_law_2214 (by decide) ?_
                        exact h_mask [true, true, true, true, true, false, false] (H23 _ _ _ _ _ _ h)
                      · rw [if_pos q28] at h
                        refine h_aload_n dL_law_667 rfl ?_
                        refine h_iconst (0 : Int32) dL_law_668 k_iconst_0 ?_
                        refine h_lald0 dL_law_669 ?_
                        refine h_iload dL_law_670 rfl ?_
                        refine h_i2l dL_law_672 ?_
                        refine h_lcmp dL_law_673 ?_
                        refine h_if_eq (tgt := 679) dL_law_674 (by decide) (fun q29 => ?_) (fun q29 => ?_)
                        · rw [if_pos q29] at h
                          refine h_goto (tgt := 2211) dL_law_679 (by decide) ?_
                          refine h_iinc (6 : Int32) dL_law_2211 rfl k_iinc_6 (by decide) rfl ?_
                          refine h_goto (tgt := 23) dL_law_2214 (by decide) ?_
                          exact h_mask [true, true, true, true, true, false, false] (H23 _ _ _ _ _ _ h)
                        · rw [if_neg q29] at h
                          refine h_iconst (0 : Int32) dL_law_677 k_iconst_0 ?_
                          cases h
                          exact h_zret dL_law_678 rfl rfl E
                    · rw [if_neg q27] at h
                      refine h_iconst (0 : Int32) dL_law_660 k_iconst_0 ?_
                      cases h
                      exact h_zret dL_law_661 rfl rfl E
                  · rw [if_neg q26] at h
                    by_cases q30 : ((xs v4.toNatClampNeg) &&& (63 : Int32)) = (8 : Int32)
                    · rw [if_pos q30] at h
                      refine h_tswIn (tgt := 682) 8 dL_law_40 (by rw [q30]; decide) (by decide) rfl (by decide) ?_
                      refine h_aload_n dL_law_682 rfl ?_
                      refine h_aload_n dL_law_683 rfl ?_
                      refine h_iload dL_law_684 rfl ?_
                      refine h_iconst (1 : Int32) dL_law_686 k_iconst_1 ?_
                      refine h_iadd dL_law_687 ?_
                      obtain ⟨g19, h⟩ := gd_some h
                      refine h_scr hscr dL_law_688 g19 ?_
                      refine h_aload_n dL_law_689 rfl ?_
                      refine h_iload dL_law_690 rfl ?_
                      refine h_iconst (2 : Int32) dL_law_692 k_iconst_2 ?_
                      refine h_iadd dL_law_693 ?_
                      obtain ⟨g20, h⟩ := gd_some h
                      refine h_scr hscr dL_law_694 g20 ?_
                      refine h_aload_n dL_law_695 rfl ?_
                      obtain ⟨y23, hh23, h⟩ := obd_some h
                      refine h_callSW [.inr (.inr (7, 0, 0)), .inl (xs (v4 + (1 : Int32)).toNatClampNeg), .inl (xs (v4 + (2 : Int32)).toNatClampNeg), .inr (.inr (86, 0, 0))] (m_L_proof hh23) cx_L_139 dL_law_696 rfl (by decide) rfl (Or.inl rfl) rfl ?_
                      refine h_istore dL_law_699 (by decide) rfl ?_
                      refine h_aload_n dL_law_701 rfl ?_
                      refine h_aload_n dL_law_702 rfl ?_
                      refine h_iload dL_law_703 rfl ?_
                      refine h_iconst (1 : Int32) dL_law_705 k_iconst_1 ?_
                      refine h_iadd dL_law_706 ?_
                      refine h_scr hscr dL_law_707 g19 ?_
                      refine h_aload_n dL_law_708 rfl ?_
                      refine h_iload dL_law_709 rfl ?_
                      refine h_iconst (2 : Int32) dL_law_711 k_iconst_2 ?_
                      refine h_iadd dL_law_712 ?_
                      refine h_scr hscr dL_law_713 g20 ?_
                      obtain ⟨y24, hh24, h⟩ := obd_some h
                      refine h_cVi [.inl (xs (v4 + (1 : Int32)).toNatClampNeg), .inl (xs (v4 + (2 : Int32)).toNatClampNeg)] (m_X8_proof  hh24) cw_L_141 dL_law_714 rfl ok_8 (by decide) rfl (Or.inr rfl) rfl ?_
                      refine h_istore dL_law_717 (by decide) rfl ?_
                      refine h_aload_n dL_law_719 rfl ?_
                      obtain ⟨y25, hh25, h⟩ := obd_some h
                      refine h_cVi [] (m_X8_thrown  hh25) cw_L_114 dL_law_720 rfl ok_8 (by decide) rfl (Or.inr rfl) rfl ?_
                      refine h_iload dL_law_723 rfl ?_
                      refine h_icmp_eq (tgt := 730) dL_law_725 (by decide) (fun q31 => ?_) (fun q31 => ?_)
                      · rw [if_pos q31] at h
                        refine h_iload dL_law_730 rfl ?_
                        refine h_if_ne (tgt := 747) dL_law_732 (by decide) (fun q32 => ?_) (fun q32 => ?_)
                        · rw [if_neg q32] at h
                          refine h_goto (tgt := 2211) dL_law_747 (by decide) ?_
                          refine h_iinc (6 : Int32) dL_law_2211 rfl k_iinc_6 (by decide) rfl ?_
                          refine h_goto (tgt := 23) dL_law_2214 (by decide) ?_
                          exact h_mask [true, true, true, true, true, false, false] (H23 _ _ _ _ _ _ h)
                        · rw [if_pos q32] at h
                          refine h_aload_n dL_law_735 rfl ?_
                          refine h_iconst (0 : Int32) dL_law_736 k_iconst_0 ?_
                          refine h_lald0 dL_law_737 ?_
                          refine h_iload dL_law_738 rfl ?_
                          refine h_i2l dL_law_740 ?_
                          refine h_lcmp dL_law_741 ?_
                          refine h_if_eq (tgt := 747) dL_law_742 (by decide) (fun q33 => ?_) (fun q33 => ?_)
                          · rw [if_pos q33] at h
                            refine h_goto (tgt := 2211) dL_law_747 (by decide) ?_
                            refine h_iinc (6 : Int32) dL_law_2211 rfl k_iinc_6 (by decide) rfl ?_
                            refine h_goto (tgt := 23) dL_law_2214 (by decide) ?_
                            exact h_mask [true, true, true, true, true, false, false] (H23 _ _ _ _ _ _ h)
                          · rw [if_neg q33] at h
                            refine h_iconst (0 : Int32) dL_law_745 k_iconst_0 ?_
                            cases h
                            exact h_zret dL_law_746 rfl rfl E
                      · rw [if_neg q31] at h
                        refine h_iconst (0 : Int32) dL_law_728 k_iconst_0 ?_
                        cases h
                        exact h_zret dL_law_729 rfl rfl E
                    · rw [if_neg q30] at h
                      by_cases q34 : ((xs v4.toNatClampNeg) &&& (63 : Int32)) = (9 : Int32)
                      · rw [if_pos q34] at h
                        refine h_tswIn (tgt := 750) 9 dL_law_40 (by rw [q34]; decide) (by decide) rfl (by decide) ?_
                        refine h_aload_n dL_law_750 rfl ?_
                        refine h_aload_n dL_law_751 rfl ?_
                        refine h_iload dL_law_752 rfl ?_
                        refine h_iconst (1 : Int32) dL_law_754 k_iconst_1 ?_
                        refine h_iadd dL_law_755 ?_
                        obtain ⟨g21, h⟩ := gd_some h
                        refine h_scr hscr dL_law_756 g21 ?_
                        refine h_aload_n dL_law_757 rfl ?_
                        refine h_iload dL_law_758 rfl ?_
                        refine h_iconst (2 : Int32) dL_law_760 k_iconst_2 ?_
                        refine h_iadd dL_law_761 ?_
                        obtain ⟨g22, h⟩ := gd_some h
                        refine h_scr hscr dL_law_762 g22 ?_
                        refine h_aload_n dL_law_763 rfl ?_
                        refine h_iload dL_law_764 rfl ?_
                        refine h_iconst (3 : Int32) dL_law_766 k_iconst_3 ?_
                        refine h_iadd dL_law_767 ?_
                        obtain ⟨g23, h⟩ := gd_some h
                        refine h_scr hscr dL_law_768 g23 ?_
                        refine h_aload_n dL_law_769 rfl ?_
                        obtain ⟨y26, hh26, h⟩ := obd_some h
                        refine h_callSW [.inr (.inr (7, 0, 0)), .inl (xs (v4 + (1 : Int32)).toNatClampNeg), .inl (xs (v4 + (2 : Int32)).toNatClampNeg), .inl (xs (v4 + (3 : Int32)).toNatClampNeg), .inr (.inr (86, 0, 0))] (m_L_said hh26) cx_L_142 dL_law_770 rfl (by decide) rfl (Or.inl rfl) rfl ?_
                        refine h_istore dL_law_773 (by decide) rfl ?_
                        refine h_aload_n dL_law_775 rfl ?_
                        refine h_aload_n dL_law_776 rfl ?_
                        refine h_iload dL_law_777 rfl ?_
                        refine h_iconst (1 : Int32) dL_law_779 k_iconst_1 ?_
                        refine h_iadd dL_law_780 ?_
                        refine h_scr hscr dL_law_781 g21 ?_
                        refine h_aload_n dL_law_782 rfl ?_
                        refine h_iload dL_law_783 rfl ?_
                        refine h_iconst (2 : Int32) dL_law_785 k_iconst_2 ?_
                        refine h_iadd dL_law_786 ?_
                        refine h_scr hscr dL_law_787 g22 ?_
                        refine h_aload_n dL_law_788 rfl ?_
                        refine h_iload dL_law_789 rfl ?_
                        refine h_iconst (3 : Int32) dL_law_791 k_iconst_3 ?_
                        refine h_iadd dL_law_792 ?_
                        refine h_scr hscr dL_law_793 g23 ?_
                        obtain ⟨y27, hh27, h⟩ := obd_some h
                        refine h_cVi [.inl (xs (v4 + (1 : Int32)).toNatClampNeg), .inl (xs (v4 + (2 : Int32)).toNatClampNeg), .inl (xs (v4 + (3 : Int32)).toNatClampNeg)] (m_X8_said  hh27) cw_L_144 dL_law_794 rfl ok_8 (by decide) rfl (Or.inr rfl) rfl ?_
                        refine h_istore dL_law_797 (by decide) rfl ?_
                        refine h_aload_n dL_law_799 rfl ?_
                        obtain ⟨y28, hh28, h⟩ := obd_some h
                        refine h_cVi [] (m_X8_thrown  hh28) cw_L_114 dL_law_800 rfl ok_8 (by decide) rfl (Or.inr rfl) rfl ?_
                        refine h_iload dL_law_803 rfl ?_
                        refine h_icmp_eq (tgt := 810) dL_law_805 (by decide) (fun q35 => ?_) (fun q35 => ?_)
                        · rw [if_pos q35] at h
                          refine h_iload dL_law_810 rfl ?_
                          refine h_if_ne (tgt := 827) dL_law_812 (by decide) (fun q36 => ?_) (fun q36 => ?_)
                          · rw [if_neg q36] at h
                            refine h_goto (tgt := 2211) dL_law_827 (by decide) ?_
                            refine h_iinc (6 : Int32) dL_law_2211 rfl k_iinc_6 (by decide) rfl ?_
                            refine h_goto (tgt := 23) dL_law_2214 (by decide) ?_
                            exact h_mask [true, true, true, true, true, false, false] (H23 _ _ _ _ _ _ h)
                          · rw [if_pos q36] at h
                            refine h_aload_n dL_law_815 rfl ?_
                            refine h_iconst (0 : Int32) dL_law_816 k_iconst_0 ?_
                            refine h_lald0 dL_law_817 ?_
                            refine h_iload dL_law_818 rfl ?_
                            refine h_i2l dL_law_820 ?_
                            refine h_lcmp dL_law_821 ?_
                            refine h_if_eq (tgt := 827) dL_law_822 (by decide) (fun q37 => ?_) (fun q37 => ?_)
                            · rw [if_pos q37] at h
                              refine h_goto (tgt := 2211) dL_law_827 (by decide) ?_
                              refine h_iinc (6 : Int32) dL_law_2211 rfl k_iinc_6 (by decide) rfl ?_
                              refine h_goto (tgt := 23) dL_law_2214 (by decide) ?_
                              exact h_mask [true, true, true, true, true, false, false] (H23 _ _ _ _ _ _ h)
                            · rw [if_neg q37] at h
                              refine h_iconst (0 : Int32) dL_law_825 k_iconst_0 ?_
                              cases h
                              exact h_zret dL_law_826 rfl rfl E
                        · rw [if_neg q35] at h
                          refine h_iconst (0 : Int32) dL_law_808 k_iconst_0 ?_
                          cases h
                          exact h_zret dL_law_809 rfl rfl E
                      · rw [if_neg q34] at h
                        by_cases q38 : ((xs v4.toNatClampNeg) &&& (63 : Int32)) = (10 : Int32)
                        · rw [if_pos q38] at h
                          refine h_tswIn (tgt := 830) 10 dL_law_40 (by rw [q38]; decide) (by decide) rfl (by decide) ?_
                          refine h_aload_n dL_law_830 rfl ?_
                          refine h_aload_n dL_law_831 rfl ?_
                          refine h_iload dL_law_832 rfl ?_
                          refine h_iconst (1 : Int32) dL_law_834 k_iconst_1 ?_
                          refine h_iadd dL_law_835 ?_
                          obtain ⟨g24, h⟩ := gd_some h
                          refine h_scr hscr dL_law_836 g24 ?_
                          refine h_aload_n dL_law_837 rfl ?_
                          refine h_iload dL_law_838 rfl ?_
                          refine h_iconst (2 : Int32) dL_law_840 k_iconst_2 ?_
                          refine h_iadd dL_law_841 ?_
                          obtain ⟨g25, h⟩ := gd_some h
                          refine h_scr hscr dL_law_842 g25 ?_
                          refine h_aload_n dL_law_843 rfl ?_
                          obtain ⟨y29, hh29, h⟩ := obd_some h
                          refine h_callSW [.inr (.inr (7, 0, 0)), .inl (xs (v4 + (1 : Int32)).toNatClampNeg), .inl (xs (v4 + (2 : Int32)).toNatClampNeg), .inr (.inr (86, 0, 0))] (m_L_met hh29) cx_L_145 dL_law_844 rfl (by decide) rfl (Or.inl rfl) rfl ?_
                          refine h_istore dL_law_847 (by decide) rfl ?_
                          refine h_aload_n dL_law_849 rfl ?_
                          refine h_aload_n dL_law_850 rfl ?_
                          refine h_iload dL_law_851 rfl ?_
                          refine h_iconst (1 : Int32) dL_law_853 k_iconst_1 ?_
                          refine h_iadd dL_law_854 ?_
                          refine h_scr hscr dL_law_855 g24 ?_
                          refine h_aload_n dL_law_856 rfl ?_
                          refine h_iload dL_law_857 rfl ?_
                          refine h_iconst (2 : Int32) dL_law_859 k_iconst_2 ?_
                          refine h_iadd dL_law_860 ?_
                          refine h_scr hscr dL_law_861 g25 ?_
                          obtain ⟨y30, hh30, h⟩ := obd_some h
                          refine h_cVi [.inl (xs (v4 + (1 : Int32)).toNatClampNeg), .inl (xs (v4 + (2 : Int32)).toNatClampNeg)] (m_X8_met  hh30) cw_L_147 dL_law_862 rfl ok_8 (by decide) rfl (Or.inr rfl) rfl ?_
                          refine h_istore dL_law_865 (by decide) rfl ?_
                          refine h_aload_n dL_law_867 rfl ?_
                          obtain ⟨y31, hh31, h⟩ := obd_some h
                          refine h_cVi [] (m_X8_thrown  hh31) cw_L_114 dL_law_868 rfl ok_8 (by decide) rfl (Or.inr rfl) rfl ?_
                          refine h_iload dL_law_871 rfl ?_
                          refine h_icmp_eq (tgt := 878) dL_law_873 (by decide) (fun q39 => ?_) (fun q39 => ?_)
                          · rw [if_pos q39] at h
                            refine h_iload dL_law_878 rfl ?_
                            refine h_if_ne (tgt := 895) dL_law_880 (by decide) (fun q40 => ?_) (fun q40 => ?_)
                            · rw [if_neg q40] at h
                              refine h_goto (tgt := 2211) dL_law_895 (by decide) ?_
                              refine h_iinc (6 : Int32) dL_law_2211 rfl k_iinc_6 (by decide) rfl ?_
                              refine h_goto (tgt := 23) dL_law_2214 (by decide) ?_
                              exact h_mask [true, true, true, true, true, false, false] (H23 _ _ _ _ _ _ h)
                            · rw [if_pos q40] at h
                              refine h_aload_n dL_law_883 rfl ?_
                              refine h_iconst (0 : Int32) dL_law_884 k_iconst_0 ?_
                              refine h_lald0 dL_law_885 ?_
                              refine h_iload dL_law_886 rfl ?_
                              refine h_i2l dL_law_888 ?_
                              refine h_lcmp dL_law_889 ?_
                              refine h_if_eq (tgt := 895) dL_law_890 (by decide) (fun q41 => ?_) (fun q41 => ?_)
                              · rw [if_pos q41] at h
                                refine h_goto (tgt := 2211) dL_law_895 (by decide) ?_
                                refine h_iinc (6 : Int32) dL_law_2211 rfl k_iinc_6 (by decide) rfl ?_
                                refine h_goto (tgt := 23) dL_law_2214 (by decide) ?_
                                exact h_mask [true, true, true, true, true, false, false] (H23 _ _ _ _ _ _ h)
                              · rw [if_neg q41] at h
                                refine h_iconst (0 : Int32) dL_law_893 k_iconst_0 ?_
                                cases h
                                exact h_zret dL_law_894 rfl rfl E
                          · rw [if_neg q39] at h
                            refine h_iconst (0 : Int32) dL_law_876 k_iconst_0 ?_
                            cases h
                            exact h_zret dL_law_877 rfl rfl E
                        · rw [if_neg q38] at h
                          by_cases q42 : ((xs v4.toNatClampNeg) &&& (63 : Int32)) = (11 : Int32)
                          · rw [if_pos q42] at h
                            refine h_tswIn (tgt := 898) 11 dL_law_40 (by rw [q42]; decide) (by decide) rfl (by decide) ?_
                            refine h_aload_n dL_law_898 rfl ?_
                            refine h_aload_n dL_law_899 rfl ?_
                            refine h_iload dL_law_900 rfl ?_
                            refine h_iconst (1 : Int32) dL_law_902 k_iconst_1 ?_
                            refine h_iadd dL_law_903 ?_
                            obtain ⟨g26, h⟩ := gd_some h
                            refine h_scr hscr dL_law_904 g26 ?_
                            refine h_aload_n dL_law_905 rfl ?_
                            refine h_iload dL_law_906 rfl ?_
                            refine h_iconst (2 : Int32) dL_law_908 k_iconst_2 ?_
                            refine h_iadd dL_law_909 ?_
                            obtain ⟨g27, h⟩ := gd_some h
                            refine h_scr hscr dL_law_910 g27 ?_
                            refine h_aload_n dL_law_911 rfl ?_
                            obtain ⟨y32, hh32, h⟩ := obd_some h
                            refine h_callSW [.inr (.inr (7, 0, 0)), .inl (xs (v4 + (1 : Int32)).toNatClampNeg), .inl (xs (v4 + (2 : Int32)).toNatClampNeg), .inr (.inr (86, 0, 0))] (m_L_guilty hh32) cx_L_148 dL_law_912 rfl (by decide) rfl (Or.inl rfl) rfl ?_
                            refine h_istore dL_law_915 (by decide) rfl ?_
                            refine h_aload_n dL_law_917 rfl ?_
                            refine h_aload_n dL_law_918 rfl ?_
                            refine h_iload dL_law_919 rfl ?_
                            refine h_iconst (1 : Int32) dL_law_921 k_iconst_1 ?_
                            refine h_iadd dL_law_922 ?_
                            refine h_scr hscr dL_law_923 g26 ?_
                            refine h_aload_n dL_law_924 rfl ?_
                            refine h_iload dL_law_925 rfl ?_
                            refine h_iconst (2 : Int32) dL_law_927 k_iconst_2 ?_
                            refine h_iadd dL_law_928 ?_
                            refine h_scr hscr dL_law_929 g27 ?_
                            obtain ⟨y33, hh33, h⟩ := obd_some h
                            refine h_cVi [.inl (xs (v4 + (1 : Int32)).toNatClampNeg), .inl (xs (v4 + (2 : Int32)).toNatClampNeg)] (m_X8_guilty  hh33) cw_L_150 dL_law_930 rfl ok_8 (by decide) rfl (Or.inr rfl) rfl ?_
                            refine h_istore dL_law_933 (by decide) rfl ?_
                            refine h_aload_n dL_law_935 rfl ?_
                            obtain ⟨y34, hh34, h⟩ := obd_some h
                            refine h_cVi [] (m_X8_thrown  hh34) cw_L_114 dL_law_936 rfl ok_8 (by decide) rfl (Or.inr rfl) rfl ?_
                            refine h_iload dL_law_939 rfl ?_
                            refine h_icmp_eq (tgt := 946) dL_law_941 (by decide) (fun q43 => ?_) (fun q43 => ?_)
                            · rw [if_pos q43] at h
                              refine h_iload dL_law_946 rfl ?_
                              refine h_if_ne (tgt := 963) dL_law_948 (by decide) (fun q44 => ?_) (fun q44 => ?_)
                              · rw [if_neg q44] at h
                                refine h_goto (tgt := 2211) dL_law_963 (by decide) ?_
                                refine h_iinc (6 : Int32) dL_law_2211 rfl k_iinc_6 (by decide) rfl ?_
                                refine h_goto (tgt := 23) dL_law_2214 (by decide) ?_
                                exact h_mask [true, true, true, true, true, false, false] (H23 _ _ _ _ _ _ h)
                              · rw [if_pos q44] at h
                                refine h_aload_n dL_law_951 rfl ?_
                                refine h_iconst (0 : Int32) dL_law_952 k_iconst_0 ?_
                                refine h_lald0 dL_law_953 ?_
                                refine h_iload dL_law_954 rfl ?_
                                refine h_i2l dL_law_956 ?_
                                refine h_lcmp dL_law_957 ?_
                                refine h_if_eq (tgt := 963) dL_law_958 (by decide) (fun q45 => ?_) (fun q45 => ?_)
                                · rw [if_pos q45] at h
                                  refine h_goto (tgt := 2211) dL_law_963 (by decide) ?_
                                  refine h_iinc (6 : Int32) dL_law_2211 rfl k_iinc_6 (by decide) rfl ?_
                                  refine h_goto (tgt := 23) dL_law_2214 (by decide) ?_
                                  exact h_mask [true, true, true, true, true, false, false] (H23 _ _ _ _ _ _ h)
                                · rw [if_neg q45] at h
                                  refine h_iconst (0 : Int32) dL_law_961 k_iconst_0 ?_
                                  cases h
                                  exact h_zret dL_law_962 rfl rfl E
                            · rw [if_neg q43] at h
                              refine h_iconst (0 : Int32) dL_law_944 k_iconst_0 ?_
                              cases h
                              exact h_zret dL_law_945 rfl rfl E
                          · rw [if_neg q42] at h
                            by_cases q46 : ((xs v4.toNatClampNeg) &&& (63 : Int32)) = (12 : Int32)
                            · rw [if_pos q46] at h
                              refine h_tswIn (tgt := 966) 12 dL_law_40 (by rw [q46]; decide) (by decide) rfl (by decide) ?_
                              refine h_aload_n dL_law_966 rfl ?_
                              refine h_aload_n dL_law_967 rfl ?_
                              refine h_iload dL_law_968 rfl ?_
                              refine h_iconst (1 : Int32) dL_law_970 k_iconst_1 ?_
                              refine h_iadd dL_law_971 ?_
                              obtain ⟨g28, h⟩ := gd_some h
                              refine h_scr hscr dL_law_972 g28 ?_
                              refine h_aload_n dL_law_973 rfl ?_
                              refine h_iload dL_law_974 rfl ?_
                              refine h_iconst (2 : Int32) dL_law_976 k_iconst_2 ?_
                              refine h_iadd dL_law_977 ?_
                              obtain ⟨g29, h⟩ := gd_some h
                              refine h_scr hscr dL_law_978 g29 ?_
                              refine h_aload_n dL_law_979 rfl ?_
                              obtain ⟨y35, hh35, h⟩ := obd_some h
                              refine h_callSW [.inr (.inr (7, 0, 0)), .inl (xs (v4 + (1 : Int32)).toNatClampNeg), .inl (xs (v4 + (2 : Int32)).toNatClampNeg), .inr (.inr (86, 0, 0))] (m_L_news hh35) cx_L_151 dL_law_980 rfl (by decide) rfl (Or.inl rfl) rfl ?_
                              refine h_istore dL_law_983 (by decide) rfl ?_
                              refine h_aload_n dL_law_985 rfl ?_
                              refine h_aload_n dL_law_986 rfl ?_
                              refine h_iload dL_law_987 rfl ?_
                              refine h_iconst (1 : Int32) dL_law_989 k_iconst_1 ?_
                              refine h_iadd dL_law_990 ?_
                              refine h_scr hscr dL_law_991 g28 ?_
                              refine h_aload_n dL_law_992 rfl ?_
                              refine h_iload dL_law_993 rfl ?_
                              refine h_iconst (2 : Int32) dL_law_995 k_iconst_2 ?_
                              refine h_iadd dL_law_996 ?_
                              refine h_scr hscr dL_law_997 g29 ?_
                              obtain ⟨y36, hh36, h⟩ := obd_some h
                              refine h_cVi [.inl (xs (v4 + (1 : Int32)).toNatClampNeg), .inl (xs (v4 + (2 : Int32)).toNatClampNeg)] (m_X8_news  hh36) cw_L_153 dL_law_998 rfl ok_8 (by decide) rfl (Or.inr rfl) rfl ?_
                              refine h_istore dL_law_1001 (by decide) rfl ?_
                              refine h_aload_n dL_law_1003 rfl ?_
                              obtain ⟨y37, hh37, h⟩ := obd_some h
                              refine h_cVi [] (m_X8_thrown  hh37) cw_L_114 dL_law_1004 rfl ok_8 (by decide) rfl (Or.inr rfl) rfl ?_
                              refine h_iload dL_law_1007 rfl ?_
                              refine h_icmp_eq (tgt := 1014) dL_law_1009 (by decide) (fun q47 => ?_) (fun q47 => ?_)
                              · rw [if_pos q47] at h
                                refine h_iload dL_law_1014 rfl ?_
                                refine h_if_ne (tgt := 1031) dL_law_1016 (by decide) (fun q48 => ?_) (fun q48 => ?_)
                                · rw [if_neg q48] at h
                                  refine h_goto (tgt := 2211) dL_law_1031 (by decide) ?_
                                  refine h_iinc (6 : Int32) dL_law_2211 rfl k_iinc_6 (by decide) rfl ?_
                                  refine h_goto (tgt := 23) dL_law_2214 (by decide) ?_
                                  exact h_mask [true, true, true, true, true, false, false] (H23 _ _ _ _ _ _ h)
                                · rw [if_pos q48] at h
                                  refine h_aload_n dL_law_1019 rfl ?_
                                  refine h_iconst (0 : Int32) dL_law_1020 k_iconst_0 ?_
                                  refine h_lald0 dL_law_1021 ?_
                                  refine h_iload dL_law_1022 rfl ?_
                                  refine h_i2l dL_law_1024 ?_
                                  refine h_lcmp dL_law_1025 ?_
                                  refine h_if_eq (tgt := 1031) dL_law_1026 (by decide) (fun q49 => ?_) (fun q49 => ?_)
                                  · rw [if_pos q49] at h
                                    refine h_goto (tgt := 2211) dL_law_1031 (by decide) ?_
                                    refine h_iinc (6 : Int32) dL_law_2211 rfl k_iinc_6 (by decide) rfl ?_
                                    refine h_goto (tgt := 23) dL_law_2214 (by decide) ?_
                                    exact h_mask [true, true, true, true, true, false, false] (H23 _ _ _ _ _ _ h)
                                  · rw [if_neg q49] at h
                                    refine h_iconst (0 : Int32) dL_law_1029 k_iconst_0 ?_
                                    cases h
                                    exact h_zret dL_law_1030 rfl rfl E
                              · rw [if_neg q47] at h
                                refine h_iconst (0 : Int32) dL_law_1012 k_iconst_0 ?_
                                cases h
                                exact h_zret dL_law_1013 rfl rfl E
                            · rw [if_neg q46] at h
                              by_cases q50 : ((xs v4.toNatClampNeg) &&& (63 : Int32)) = (13 : Int32)
                              · rw [if_pos q50] at h
                                refine h_tswIn (tgt := 1034) 13 dL_law_40 (by rw [q50]; decide) (by decide) rfl (by decide) ?_
                                refine h_aload_n dL_law_1034 rfl ?_
                                refine h_aload_n dL_law_1035 rfl ?_
                                refine h_iload dL_law_1036 rfl ?_
                                refine h_iconst (1 : Int32) dL_law_1038 k_iconst_1 ?_
                                refine h_iadd dL_law_1039 ?_
                                obtain ⟨g30, h⟩ := gd_some h
                                refine h_scr hscr dL_law_1040 g30 ?_
                                refine h_aload_n dL_law_1041 rfl ?_
                                refine h_iload dL_law_1042 rfl ?_
                                refine h_iconst (2 : Int32) dL_law_1044 k_iconst_2 ?_
                                refine h_iadd dL_law_1045 ?_
                                obtain ⟨g31, h⟩ := gd_some h
                                refine h_scr hscr dL_law_1046 g31 ?_
                                refine h_aload_n dL_law_1047 rfl ?_
                                obtain ⟨y38, hh38, h⟩ := obd_some h
                                refine h_callSW [.inr (.inr (7, 0, 0)), .inl (xs (v4 + (1 : Int32)).toNatClampNeg), .inl (xs (v4 + (2 : Int32)).toNatClampNeg), .inr (.inr (86, 0, 0))] (m_L_start hh38) cx_L_154 dL_law_1048 rfl (by decide) rfl (Or.inl rfl) rfl ?_
                                refine h_istore dL_law_1051 (by decide) rfl ?_
                                refine h_aload_n dL_law_1053 rfl ?_
                                refine h_aload_n dL_law_1054 rfl ?_
                                refine h_iload dL_law_1055 rfl ?_
                                refine h_iconst (1 : Int32) dL_law_1057 k_iconst_1 ?_
                                refine h_iadd dL_law_1058 ?_
                                refine h_scr hscr dL_law_1059 g30 ?_
                                refine h_aload_n dL_law_1060 rfl ?_
                                refine h_iload dL_law_1061 rfl ?_
                                refine h_iconst (2 : Int32) dL_law_1063 k_iconst_2 ?_
                                refine h_iadd dL_law_1064 ?_
                                refine h_scr hscr dL_law_1065 g31 ?_
                                obtain ⟨y39, hh39, h⟩ := obd_some h
                                refine h_cVi [.inl (xs (v4 + (1 : Int32)).toNatClampNeg), .inl (xs (v4 + (2 : Int32)).toNatClampNeg)] (m_X8_start  hh39) cw_L_156 dL_law_1066 rfl ok_8 (by decide) rfl (Or.inr rfl) rfl ?_
                                refine h_istore dL_law_1069 (by decide) rfl ?_
                                refine h_aload_n dL_law_1071 rfl ?_
                                obtain ⟨y40, hh40, h⟩ := obd_some h
                                refine h_cVi [] (m_X8_thrown  hh40) cw_L_114 dL_law_1072 rfl ok_8 (by decide) rfl (Or.inr rfl) rfl ?_
                                refine h_iload dL_law_1075 rfl ?_
                                refine h_icmp_eq (tgt := 1082) dL_law_1077 (by decide) (fun q51 => ?_) (fun q51 => ?_)
                                · rw [if_pos q51] at h
                                  refine h_iload dL_law_1082 rfl ?_
                                  refine h_if_ne (tgt := 1099) dL_law_1084 (by decide) (fun q52 => ?_) (fun q52 => ?_)
                                  · rw [if_neg q52] at h
                                    refine h_goto (tgt := 2211) dL_law_1099 (by decide) ?_
                                    refine h_iinc (6 : Int32) dL_law_2211 rfl k_iinc_6 (by decide) rfl ?_
                                    refine h_goto (tgt := 23) dL_law_2214 (by decide) ?_
                                    exact h_mask [true, true, true, true, true, false, false] (H23 _ _ _ _ _ _ h)
                                  · rw [if_pos q52] at h
                                    refine h_aload_n dL_law_1087 rfl ?_
                                    refine h_iconst (0 : Int32) dL_law_1088 k_iconst_0 ?_
                                    refine h_lald0 dL_law_1089 ?_
                                    refine h_iload dL_law_1090 rfl ?_
                                    refine h_i2l dL_law_1092 ?_
                                    refine h_lcmp dL_law_1093 ?_
                                    refine h_if_eq (tgt := 1099) dL_law_1094 (by decide) (fun q53 => ?_) (fun q53 => ?_)
                                    · rw [if_pos q53] at h
                                      refine h_goto (tgt := 2211) dL_law_1099 (by decide) ?_
                                      refine h_iinc (6 : Int32) dL_law_2211 rfl k_iinc_6 (by decide) rfl ?_
                                      refine h_goto (tgt := 23) dL_law_2214 (by decide) ?_
                                      exact h_mask [true, true, true, true, true, false, false] (H23 _ _ _ _ _ _ h)
                                    · rw [if_neg q53] at h
                                      refine h_iconst (0 : Int32) dL_law_1097 k_iconst_0 ?_
                                      cases h
                                      exact h_zret dL_law_1098 rfl rfl E
                                · rw [if_neg q51] at h
                                  refine h_iconst (0 : Int32) dL_law_1080 k_iconst_0 ?_
                                  cases h
                                  exact h_zret dL_law_1081 rfl rfl E
                              · rw [if_neg q50] at h
                                by_cases q54 : ((xs v4.toNatClampNeg) &&& (63 : Int32)) = (14 : Int32)
                                · rw [if_pos q54] at h
                                  refine h_tswIn (tgt := 1102) 14 dL_law_40 (by rw [q54]; decide) (by decide) rfl (by decide) ?_
                                  refine h_aload_n dL_law_1102 rfl ?_
                                  refine h_aload_n dL_law_1103 rfl ?_
                                  refine h_iload dL_law_1104 rfl ?_
                                  refine h_iconst (1 : Int32) dL_law_1106 k_iconst_1 ?_
                                  refine h_iadd dL_law_1107 ?_
                                  obtain ⟨g32, h⟩ := gd_some h
                                  refine h_scr hscr dL_law_1108 g32 ?_
                                  refine h_aload_n dL_law_1109 rfl ?_
                                  refine h_iload dL_law_1110 rfl ?_
                                  refine h_iconst (2 : Int32) dL_law_1112 k_iconst_2 ?_
                                  refine h_iadd dL_law_1113 ?_
                                  obtain ⟨g33, h⟩ := gd_some h
                                  refine h_scr hscr dL_law_1114 g33 ?_
                                  refine h_if_eq (tgt := 1122) dL_law_1115 (by decide) (fun q55 => ?_) (fun q55 => ?_)
                                  · rw [if_pos q55] at h
                                    refine h_iconst (0 : Int32) dL_law_1122 k_iconst_0 ?_
                                    refine h_aload_n dL_law_1123 rfl ?_
                                    obtain ⟨y41, hh41, h⟩ := obd_some h
                                    refine h_callSW [.inr (.inr (7, 0, 0)), .inl (xs (v4 + (1 : Int32)).toNatClampNeg), .inl (0 : Int32), .inr (.inr (86, 0, 0))] (m_L_inn hh41) cx_L_157 dL_law_1124 rfl (by decide) rfl (Or.inl rfl) rfl ?_
                                    refine h_istore dL_law_1127 (by decide) rfl ?_
                                    refine h_aload_n dL_law_1129 rfl ?_
                                    refine h_aload_n dL_law_1130 rfl ?_
                                    refine h_iload dL_law_1131 rfl ?_
                                    refine h_iconst (1 : Int32) dL_law_1133 k_iconst_1 ?_
                                    refine h_iadd dL_law_1134 ?_
                                    refine h_scr hscr dL_law_1135 g32 ?_
                                    refine h_aload_n dL_law_1136 rfl ?_
                                    refine h_iload dL_law_1137 rfl ?_
                                    refine h_iconst (2 : Int32) dL_law_1139 k_iconst_2 ?_
                                    refine h_iadd dL_law_1140 ?_
                                    refine h_scr hscr dL_law_1141 g33 ?_
                                    refine h_if_eq (tgt := 1149) dL_law_1142 (by decide) (fun q56 => ?_) (fun q56 => ?_)
                                    · rw [if_pos q56] at h
                                      refine h_iconst (0 : Int32) dL_law_1149 k_iconst_0 ?_
                                      obtain ⟨y42, hh42, h⟩ := obd_some h
                                      refine h_cVi [.inl (xs (v4 + (1 : Int32)).toNatClampNeg), .inl (0 : Int32)] (m_X8_inn  hh42) cw_L_160 dL_law_1150 rfl ok_8 (by decide) rfl (Or.inr rfl) rfl ?_
                                      refine h_istore dL_law_1153 (by decide) rfl ?_
                                      refine h_aload_n dL_law_1155 rfl ?_
                                      obtain ⟨y43, hh43, h⟩ := obd_some h
                                      refine h_cVi [] (m_X8_thrown  hh43) cw_L_114 dL_law_1156 rfl ok_8 (by decide) rfl (Or.inr rfl) rfl ?_
                                      refine h_iload dL_law_1159 rfl ?_
                                      refine h_icmp_eq (tgt := 1166) dL_law_1161 (by decide) (fun q57 => ?_) (fun q57 => ?_)
                                      · rw [if_pos q57] at h
                                        refine h_iload dL_law_1166 rfl ?_
                                        refine h_if_ne (tgt := 1190) dL_law_1168 (by decide) (fun q58 => ?_) (fun q58 => ?_)
                                        · rw [if_neg q58] at h
                                          refine h_goto (tgt := 2211) dL_law_1190 (by decide) ?_
                                          refine h_iinc (6 : Int32) dL_law_2211 rfl k_iinc_6 (by decide) rfl ?_
                                          refine h_goto (tgt := 23) dL_law_2214 (by decide) ?_
                                          exact h_mask [true, true, true, true, true, false, false] (H23 _ _ _ _ _ _ h)
                                        · rw [if_pos q58] at h
                                          refine h_aload_n dL_law_1171 rfl ?_
                                          refine h_iconst (0 : Int32) dL_law_1172 k_iconst_0 ?_
                                          refine h_lald0 dL_law_1173 ?_
                                          refine h_iload dL_law_1174 rfl ?_
                                          refine h_if_eq (tgt := 1183) dL_law_1176 (by decide) (fun q59 => ?_) (fun q59 => ?_)
                                          · rw [if_pos q59] at h
                                            refine h_lconst 0 dL_law_1183 rfl ?_
                                            refine h_lcmp dL_law_1184 ?_
                                            refine h_if_eq (tgt := 1190) dL_law_1185 (by decide) (fun q60 => ?_) (fun q60 => ?_)
                                            · rw [if_pos q60] at h
                                              refine h_goto (tgt := 2211) dL_law_1190 (by decide) ?_
                                              refine h_iinc (6 : Int32) dL_law_2211 rfl k_iinc_6 (by decide) rfl ?_
                                              refine h_goto (tgt := 23) dL_law_2214 (by decide) ?_
                                              exact h_mask [true, true, true, true, true, false, false] (H23 _ _ _ _ _ _ h)
                                            · rw [if_neg q60] at h
                                              refine h_iconst (0 : Int32) dL_law_1188 k_iconst_0 ?_
                                              cases h
                                              exact h_zret dL_law_1189 rfl rfl E
                                          · rw [if_neg q59] at h
                                            refine h_lconst 1 dL_law_1179 rfl ?_
                                            refine h_goto (tgt := 1184) dL_law_1180 (by decide) ?_
                                            refine h_lcmp dL_law_1184 ?_
                                            refine h_if_eq (tgt := 1190) dL_law_1185 (by decide) (fun q61 => ?_) (fun q61 => ?_)
                                            · rw [if_pos q61] at h
                                              refine h_goto (tgt := 2211) dL_law_1190 (by decide) ?_
                                              refine h_iinc (6 : Int32) dL_law_2211 rfl k_iinc_6 (by decide) rfl ?_
                                              refine h_goto (tgt := 23) dL_law_2214 (by decide) ?_
                                              exact h_mask [true, true, true, true, true, false, false] (H23 _ _ _ _ _ _ h)
                                            · rw [if_neg q61] at h
                                              refine h_iconst (0 : Int32) dL_law_1188 k_iconst_0 ?_
                                              cases h
                                              exact h_zret dL_law_1189 rfl rfl E
                                      · rw [if_neg q57] at h
                                        refine h_iconst (0 : Int32) dL_law_1164 k_iconst_0 ?_
                                        cases h
                                        exact h_zret dL_law_1165 rfl rfl E
                                    · rw [if_neg q56] at h
                                      refine h_iconst (1 : Int32) dL_law_1145 k_iconst_1 ?_
                                      refine h_goto (tgt := 1150) dL_law_1146 (by decide) ?_
                                      obtain ⟨y44, hh44, h⟩ := obd_some h
                                      refine h_cVi [.inl (xs (v4 + (1 : Int32)).toNatClampNeg), .inl (1 : Int32)] (m_X8_inn  hh44) cw_L_160 dL_law_1150 rfl ok_8 (by decide) rfl (Or.inr rfl) rfl ?_
                                      refine h_istore dL_law_1153 (by decide) rfl ?_
                                      refine h_aload_n dL_law_1155 rfl ?_
                                      obtain ⟨y45, hh45, h⟩ := obd_some h
                                      refine h_cVi [] (m_X8_thrown  hh45) cw_L_114 dL_law_1156 rfl ok_8 (by decide) rfl (Or.inr rfl) rfl ?_
                                      refine h_iload dL_law_1159 rfl ?_
                                      refine h_icmp_eq (tgt := 1166) dL_law_1161 (by decide) (fun q62 => ?_) (fun q62 => ?_)
                                      · rw [if_pos q62] at h
                                        refine h_iload dL_law_1166 rfl ?_
                                        refine h_if_ne (tgt := 1190) dL_law_1168 (by decide) (fun q63 => ?_) (fun q63 => ?_)
                                        · rw [if_neg q63] at h
                                          refine h_goto (tgt := 2211) dL_law_1190 (by decide) ?_
                                          refine h_iinc (6 : Int32) dL_law_2211 rfl k_iinc_6 (by decide) rfl ?_
                                          refine h_goto (tgt := 23) dL_law_2214 (by decide) ?_
                                          exact h_mask [true, true, true, true, true, false, false] (H23 _ _ _ _ _ _ h)
                                        · rw [if_pos q63] at h
                                          refine h_aload_n dL_law_1171 rfl ?_
                                          refine h_iconst (0 : Int32) dL_law_1172 k_iconst_0 ?_
                                          refine h_lald0 dL_law_1173 ?_
                                          refine h_iload dL_law_1174 rfl ?_
                                          refine h_if_eq (tgt := 1183) dL_law_1176 (by decide) (fun q64 => ?_) (fun q64 => ?_)
                                          · rw [if_pos q64] at h
                                            refine h_lconst 0 dL_law_1183 rfl ?_
                                            refine h_lcmp dL_law_1184 ?_
                                            refine h_if_eq (tgt := 1190) dL_law_1185 (by decide) (fun q65 => ?_) (fun q65 => ?_)
                                            · rw [if_pos q65] at h
                                              refine h_goto (tgt := 2211) dL_law_1190 (by decide) ?_
                                              refine h_iinc (6 : Int32) dL_law_2211 rfl k_iinc_6 (by decide) rfl ?_
                                              refine h_goto (tgt := 23) dL_law_2214 (by decide) ?_
                                              exact h_mask [true, true, true, true, true, false, false] (H23 _ _ _ _ _ _ h)
                                            · rw [if_neg q65] at h
                                              refine h_iconst (0 : Int32) dL_law_1188 k_iconst_0 ?_
                                              cases h
                                              exact h_zret dL_law_1189 rfl rfl E
                                          · rw [if_neg q64] at h
                                            refine h_lconst 1 dL_law_1179 rfl ?_
                                            refine h_goto (tgt := 1184) dL_law_1180 (by decide) ?_
                                            refine h_lcmp dL_law_1184 ?_
                                            refine h_if_eq (tgt := 1190) dL_law_1185 (by decide) (fun q66 => ?_) (fun q66 => ?_)
                                            · rw [if_pos q66] at h
                                              refine h_goto (tgt := 2211) dL_law_1190 (by decide) ?_
                                              refine h_iinc (6 : Int32) dL_law_2211 rfl k_iinc_6 (by decide) rfl ?_
                                              refine h_goto (tgt := 23) dL_law_2214 (by decide) ?_
                                              exact h_mask [true, true, true, true, true, false, false] (H23 _ _ _ _ _ _ h)
                                            · rw [if_neg q66] at h
                                              refine h_iconst (0 : Int32) dL_law_1188 k_iconst_0 ?_
                                              cases h
                                              exact h_zret dL_law_1189 rfl rfl E
                                      · rw [if_neg q62] at h
                                        refine h_iconst (0 : Int32) dL_law_1164 k_iconst_0 ?_
                                        cases h
                                        exact h_zret dL_law_1165 rfl rfl E
                                  · rw [if_neg q55] at h
                                    refine h_iconst (1 : Int32) dL_law_1118 k_iconst_1 ?_
                                    refine h_goto (tgt := 1123) dL_law_1119 (by decide) ?_
                                    refine h_aload_n dL_law_1123 rfl ?_
                                    obtain ⟨y46, hh46, h⟩ := obd_some h
                                    refine h_callSW [.inr (.inr (7, 0, 0)), .inl (xs (v4 + (1 : Int32)).toNatClampNeg), .inl (1 : Int32), .inr (.inr (86, 0, 0))] (m_L_inn hh46) cx_L_157 dL_law_1124 rfl (by decide) rfl (Or.inl rfl) rfl ?_
                                    refine h_istore dL_law_1127 (by decide) rfl ?_
                                    refine h_aload_n dL_law_1129 rfl ?_
                                    refine h_aload_n dL_law_1130 rfl ?_
                                    refine h_iload dL_law_1131 rfl ?_
                                    refine h_iconst (1 : Int32) dL_law_1133 k_iconst_1 ?_
                                    refine h_iadd dL_law_1134 ?_
                                    refine h_scr hscr dL_law_1135 g32 ?_
                                    refine h_aload_n dL_law_1136 rfl ?_
                                    refine h_iload dL_law_1137 rfl ?_
                                    refine h_iconst (2 : Int32) dL_law_1139 k_iconst_2 ?_
                                    refine h_iadd dL_law_1140 ?_
                                    refine h_scr hscr dL_law_1141 g33 ?_
                                    refine h_if_eq (tgt := 1149) dL_law_1142 (by decide) (fun q67 => ?_) (fun q67 => ?_)
                                    · rw [if_pos q67] at h
                                      refine h_iconst (0 : Int32) dL_law_1149 k_iconst_0 ?_
                                      obtain ⟨y47, hh47, h⟩ := obd_some h
                                      refine h_cVi [.inl (xs (v4 + (1 : Int32)).toNatClampNeg), .inl (0 : Int32)] (m_X8_inn  hh47) cw_L_160 dL_law_1150 rfl ok_8 (by decide) rfl (Or.inr rfl) rfl ?_
                                      refine h_istore dL_law_1153 (by decide) rfl ?_
                                      refine h_aload_n dL_law_1155 rfl ?_
                                      obtain ⟨y48, hh48, h⟩ := obd_some h
                                      refine h_cVi [] (m_X8_thrown  hh48) cw_L_114 dL_law_1156 rfl ok_8 (by decide) rfl (Or.inr rfl) rfl ?_
                                      refine h_iload dL_law_1159 rfl ?_
                                      refine h_icmp_eq (tgt := 1166) dL_law_1161 (by decide) (fun q68 => ?_) (fun q68 => ?_)
                                      · rw [if_pos q68] at h
                                        refine h_iload dL_law_1166 rfl ?_
                                        refine h_if_ne (tgt := 1190) dL_law_1168 (by decide) (fun q69 => ?_) (fun q69 => ?_)
                                        · rw [if_neg q69] at h
                                          refine h_goto (tgt := 2211) dL_law_1190 (by decide) ?_
                                          refine h_iinc (6 : Int32) dL_law_2211 rfl k_iinc_6 (by decide) rfl ?_
                                          refine h_goto (tgt := 23) dL_law_2214 (by decide) ?_
                                          exact h_mask [true, true, true, true, true, false, false] (H23 _ _ _ _ _ _ h)
                                        · rw [if_pos q69] at h
                                          refine h_aload_n dL_law_1171 rfl ?_
                                          refine h_iconst (0 : Int32) dL_law_1172 k_iconst_0 ?_
                                          refine h_lald0 dL_law_1173 ?_
                                          refine h_iload dL_law_1174 rfl ?_
                                          refine h_if_eq (tgt := 1183) dL_law_1176 (by decide) (fun q70 => ?_) (fun q70 => ?_)
                                          · rw [if_pos q70] at h
                                            refine h_lconst 0 dL_law_1183 rfl ?_
                                            refine h_lcmp dL_law_1184 ?_
                                            refine h_if_eq (tgt := 1190) dL_law_1185 (by decide) (fun q71 => ?_) (fun q71 => ?_)
                                            · rw [if_pos q71] at h
                                              refine h_goto (tgt := 2211) dL_law_1190 (by decide) ?_
                                              refine h_iinc (6 : Int32) dL_law_2211 rfl k_iinc_6 (by decide) rfl ?_
                                              refine h_goto (tgt := 23) dL_law_2214 (by decide) ?_
                                              exact h_mask [true, true, true, true, true, false, false] (H23 _ _ _ _ _ _ h)
                                            · rw [if_neg q71] at h
                                              refine h_iconst (0 : Int32) dL_law_1188 k_iconst_0 ?_
                                              cases h
                                              exact h_zret dL_law_1189 rfl rfl E
                                          · rw [if_neg q70] at h
                                            refine h_lconst 1 dL_law_1179 rfl ?_
                                            refine h_goto (tgt := 1184) dL_law_1180 (by decide) ?_
                                            refine h_lcmp dL_law_1184 ?_
                                            refine h_if_eq (tgt := 1190) dL_law_1185 (by decide) (fun q72 => ?_) (fun q72 => ?_)
                                            · rw [if_pos q72] at h
                                              refine h_goto (tgt := 2211) dL_law_1190 (by decide) ?_
                                              refine h_iinc (6 : Int32) dL_law_2211 rfl k_iinc_6 (by decide) rfl ?_
                                              refine h_goto (tgt := 23) dL_law_2214 (by decide) ?_
                                              exact h_mask [true, true, true, true, true, false, false] (H23 _ _ _ _ _ _ h)
                                            · rw [if_neg q72] at h
                                              refine h_iconst (0 : Int32) dL_law_1188 k_iconst_0 ?_
                                              cases h
                                              exact h_zret dL_law_1189 rfl rfl E
                                      · rw [if_neg q68] at h
                                        refine h_iconst (0 : Int32) dL_law_1164 k_iconst_0 ?_
                                        cases h
                                        exact h_zret dL_law_1165 rfl rfl E
                                    · rw [if_neg q67] at h
                                      refine h_iconst (1 : Int32) dL_law_1145 k_iconst_1 ?_
                                      refine h_goto (tgt := 1150) dL_law_1146 (by decide) ?_
                                      obtain ⟨y49, hh49, h⟩ := obd_some h
                                      refine h_cVi [.inl (xs (v4 + (1 : Int32)).toNatClampNeg), .inl (1 : Int32)] (m_X8_inn  hh49) cw_L_160 dL_law_1150 rfl ok_8 (by decide) rfl (Or.inr rfl) rfl ?_
                                      refine h_istore dL_law_1153 (by decide) rfl ?_
                                      refine h_aload_n dL_law_1155 rfl ?_
                                      obtain ⟨y50, hh50, h⟩ := obd_some h
                                      refine h_cVi [] (m_X8_thrown  hh50) cw_L_114 dL_law_1156 rfl ok_8 (by decide) rfl (Or.inr rfl) rfl ?_
                                      refine h_iload dL_law_1159 rfl ?_
                                      refine h_icmp_eq (tgt := 1166) dL_law_1161 (by decide) (fun q73 => ?_) (fun q73 => ?_)
                                      · rw [if_pos q73] at h
                                        refine h_iload dL_law_1166 rfl ?_
                                        refine h_if_ne (tgt := 1190) dL_law_1168 (by decide) (fun q74 => ?_) (fun q74 => ?_)
                                        · rw [if_neg q74] at h
                                          refine h_goto (tgt := 2211) dL_law_1190 (by decide) ?_
                                          refine h_iinc (6 : Int32) dL_law_2211 rfl k_iinc_6 (by decide) rfl ?_
                                          refine h_goto (tgt := 23) dL_law_2214 (by decide) ?_
                                          exact h_mask [true, true, true, true, true, false, false] (H23 _ _ _ _ _ _ h)
                                        · rw [if_pos q74] at h
                                          refine h_aload_n dL_law_1171 rfl ?_
                                          refine h_iconst (0 : Int32) dL_law_1172 k_iconst_0 ?_
                                          refine h_lald0 dL_law_1173 ?_
                                          refine h_iload dL_law_1174 rfl ?_
                                          refine h_if_eq (tgt := 1183) dL_law_1176 (by decide) (fun q75 => ?_) (fun q75 => ?_)
                                          · rw [if_pos q75] at h
                                            refine h_lconst 0 dL_law_1183 rfl ?_
                                            refine h_lcmp dL_law_1184 ?_
                                            refine h_if_eq (tgt := 1190) dL_law_1185 (by decide) (fun q76 => ?_) (fun q76 => ?_)
                                            · rw [if_pos q76] at h
                                              refine h_goto (tgt := 2211) dL_law_1190 (by decide) ?_
                                              refine h_iinc (6 : Int32) dL_law_2211 rfl k_iinc_6 (by decide) rfl ?_
                                              refine h_goto (tgt := 23) dL_law_2214 (by decide) ?_
                                              exact h_mask [true, true, true, true, true, false, false] (H23 _ _ _ _ _ _ h)
                                            · rw [if_neg q76] at h
                                              refine h_iconst (0 : Int32) dL_law_1188 k_iconst_0 ?_
                                              cases h
                                              exact h_zret dL_law_1189 rfl rfl E
                                          · rw [if_neg q75] at h
                                            refine h_lconst 1 dL_law_1179 rfl ?_
                                            refine h_goto (tgt := 1184) dL_law_1180 (by decide) ?_
                                            refine h_lcmp dL_law_1184 ?_
                                            refine h_if_eq (tgt := 1190) dL_law_1185 (by decide) (fun q77 => ?_) (fun q77 => ?_)
                                            · rw [if_pos q77] at h
                                              refine h_goto (tgt := 2211) dL_law_1190 (by decide) ?_
                                              refine h_iinc (6 : Int32) dL_law_2211 rfl k_iinc_6 (by decide) rfl ?_
                                              refine h_goto (tgt := 23) dL_law_2214 (by decide) ?_
                                              exact h_mask [true, true, true, true, true, false, false] (H23 _ _ _ _ _ _ h)
                                            · rw [if_neg q77] at h
                                              refine h_iconst (0 : Int32) dL_law_1188 k_iconst_0 ?_
                                              cases h
                                              exact h_zret dL_law_1189 rfl rfl E
                                      · rw [if_neg q73] at h
                                        refine h_iconst (0 : Int32) dL_law_1164 k_iconst_0 ?_
                                        cases h
                                        exact h_zret dL_law_1165 rfl rfl E
                                · rw [if_neg q54] at h
                                  by_cases q78 : ((xs v4.toNatClampNeg) &&& (63 : Int32)) = (15 : Int32)
                                  · rw [if_pos q78] at h
                                    refine h_tswIn (tgt := 1193) 15 dL_law_40 (by rw [q78]; decide) (by decide) rfl (by decide) ?_
                                    refine h_aload_n dL_law_1193 rfl ?_
                                    refine h_aload_n dL_law_1194 rfl ?_
                                    refine h_iload dL_law_1195 rfl ?_
                                    refine h_iconst (1 : Int32) dL_law_1197 k_iconst_1 ?_
                                    refine h_iadd dL_law_1198 ?_
                                    obtain ⟨g34, h⟩ := gd_some h
                                    refine h_scr hscr dL_law_1199 g34 ?_
                                    refine h_aload_n dL_law_1200 rfl ?_
                                    refine h_iload dL_law_1201 rfl ?_
                                    refine h_iconst (2 : Int32) dL_law_1203 k_iconst_2 ?_
                                    refine h_iadd dL_law_1204 ?_
                                    obtain ⟨g35, h⟩ := gd_some h
                                    refine h_scr hscr dL_law_1205 g35 ?_
                                    refine h_aload_n dL_law_1206 rfl ?_
                                    refine h_iload dL_law_1207 rfl ?_
                                    refine h_iconst (3 : Int32) dL_law_1209 k_iconst_3 ?_
                                    refine h_iadd dL_law_1210 ?_
                                    obtain ⟨g36, h⟩ := gd_some h
                                    refine h_scr hscr dL_law_1211 g36 ?_
                                    refine h_aload_n dL_law_1212 rfl ?_
                                    obtain ⟨y51, hh51, h⟩ := obd_some h
                                    refine h_callSW [.inr (.inr (7, 0, 0)), .inl (xs (v4 + (1 : Int32)).toNatClampNeg), .inl (xs (v4 + (2 : Int32)).toNatClampNeg), .inl (xs (v4 + (3 : Int32)).toNatClampNeg), .inr (.inr (86, 0, 0))] (m_L_word hh51) cx_L_161 dL_law_1213 rfl (by decide) rfl (Or.inl rfl) rfl ?_
                                    refine h_istore dL_law_1216 (by decide) rfl ?_
                                    refine h_aload_n dL_law_1218 rfl ?_
                                    refine h_aload_n dL_law_1219 rfl ?_
                                    refine h_iload dL_law_1220 rfl ?_
                                    refine h_iconst (1 : Int32) dL_law_1222 k_iconst_1 ?_
                                    refine h_iadd dL_law_1223 ?_
                                    refine h_scr hscr dL_law_1224 g34 ?_
                                    refine h_aload_n dL_law_1225 rfl ?_
                                    refine h_iload dL_law_1226 rfl ?_
                                    refine h_iconst (2 : Int32) dL_law_1228 k_iconst_2 ?_
                                    refine h_iadd dL_law_1229 ?_
                                    refine h_scr hscr dL_law_1230 g35 ?_
                                    refine h_aload_n dL_law_1231 rfl ?_
                                    refine h_iload dL_law_1232 rfl ?_
                                    refine h_iconst (3 : Int32) dL_law_1234 k_iconst_3 ?_
                                    refine h_iadd dL_law_1235 ?_
                                    refine h_scr hscr dL_law_1236 g36 ?_
                                    obtain ⟨y52, hh52, h⟩ := obd_some h
                                    refine h_cVi [.inl (xs (v4 + (1 : Int32)).toNatClampNeg), .inl (xs (v4 + (2 : Int32)).toNatClampNeg), .inl (xs (v4 + (3 : Int32)).toNatClampNeg)] (m_X8_word  hh52) cw_L_163 dL_law_1237 rfl ok_8 (by decide) rfl (Or.inr rfl) rfl ?_
                                    refine h_istore dL_law_1240 (by decide) rfl ?_
                                    refine h_aload_n dL_law_1242 rfl ?_
                                    obtain ⟨y53, hh53, h⟩ := obd_some h
                                    refine h_cVi [] (m_X8_thrown  hh53) cw_L_114 dL_law_1243 rfl ok_8 (by decide) rfl (Or.inr rfl) rfl ?_
                                    refine h_iload dL_law_1246 rfl ?_
                                    refine h_icmp_eq (tgt := 1253) dL_law_1248 (by decide) (fun q79 => ?_) (fun q79 => ?_)
                                    · rw [if_pos q79] at h
                                      refine h_iload dL_law_1253 rfl ?_
                                      refine h_if_ne (tgt := 1270) dL_law_1255 (by decide) (fun q80 => ?_) (fun q80 => ?_)
                                      · rw [if_neg q80] at h
                                        refine h_goto (tgt := 2211) dL_law_1270 (by decide) ?_
                                        refine h_iinc (6 : Int32) dL_law_2211 rfl k_iinc_6 (by decide) rfl ?_
                                        refine h_goto (tgt := 23) dL_law_2214 (by decide) ?_
                                        exact h_mask [true, true, true, true, true, false, false] (H23 _ _ _ _ _ _ h)
                                      · rw [if_pos q80] at h
                                        refine h_aload_n dL_law_1258 rfl ?_
                                        refine h_iconst (0 : Int32) dL_law_1259 k_iconst_0 ?_
                                        refine h_lald0 dL_law_1260 ?_
                                        refine h_iload dL_law_1261 rfl ?_
                                        refine h_i2l dL_law_1263 ?_
                                        refine h_lcmp dL_law_1264 ?_
                                        refine h_if_eq (tgt := 1270) dL_law_1265 (by decide) (fun q81 => ?_) (fun q81 => ?_)
                                        · rw [if_pos q81] at h
                                          refine h_goto (tgt := 2211) dL_law_1270 (by decide) ?_
                                          refine h_iinc (6 : Int32) dL_law_2211 rfl k_iinc_6 (by decide) rfl ?_
                                          refine h_goto (tgt := 23) dL_law_2214 (by decide) ?_
                                          exact h_mask [true, true, true, true, true, false, false] (H23 _ _ _ _ _ _ h)
                                        · rw [if_neg q81] at h
                                          refine h_iconst (0 : Int32) dL_law_1268 k_iconst_0 ?_
                                          cases h
                                          exact h_zret dL_law_1269 rfl rfl E
                                    · rw [if_neg q79] at h
                                      refine h_iconst (0 : Int32) dL_law_1251 k_iconst_0 ?_
                                      cases h
                                      exact h_zret dL_law_1252 rfl rfl E
                                  · rw [if_neg q78] at h
                                    by_cases q82 : ((xs v4.toNatClampNeg) &&& (63 : Int32)) = (16 : Int32)
                                    · rw [if_pos q82] at h
                                      refine h_tswIn (tgt := 1273) 16 dL_law_40 (by rw [q82]; decide) (by decide) rfl (by decide) ?_
                                      refine h_aload_n dL_law_1273 rfl ?_
                                      refine h_aload_n dL_law_1274 rfl ?_
                                      refine h_iload dL_law_1275 rfl ?_
                                      refine h_iconst (1 : Int32) dL_law_1277 k_iconst_1 ?_
                                      refine h_iadd dL_law_1278 ?_
                                      obtain ⟨g37, h⟩ := gd_some h
                                      refine h_scr hscr dL_law_1279 g37 ?_
                                      refine h_aload_n dL_law_1280 rfl ?_
                                      refine h_iload dL_law_1281 rfl ?_
                                      refine h_iconst (2 : Int32) dL_law_1283 k_iconst_2 ?_
                                      refine h_iadd dL_law_1284 ?_
                                      obtain ⟨g38, h⟩ := gd_some h
                                      refine h_scr hscr dL_law_1285 g38 ?_
                                      refine h_aload_n dL_law_1286 rfl ?_
                                      refine h_iload dL_law_1287 rfl ?_
                                      refine h_iconst (3 : Int32) dL_law_1289 k_iconst_3 ?_
                                      refine h_iadd dL_law_1290 ?_
                                      obtain ⟨g39, h⟩ := gd_some h
                                      refine h_scr hscr dL_law_1291 g39 ?_
                                      refine h_aload_n dL_law_1292 rfl ?_
                                      obtain ⟨y54, hh54, h⟩ := obd_some h
                                      refine h_callSW [.inr (.inr (7, 0, 0)), .inl (xs (v4 + (1 : Int32)).toNatClampNeg), .inl (xs (v4 + (2 : Int32)).toNatClampNeg), .inl (xs (v4 + (3 : Int32)).toNatClampNeg), .inr (.inr (86, 0, 0))] (m_L_feast hh54) cx_L_164 dL_law_1293 rfl (by decide) rfl (Or.inl rfl) rfl ?_
                                      refine h_istore dL_law_1296 (by decide) rfl ?_
                                      refine h_aload_n dL_law_1298 rfl ?_
                                      refine h_aload_n dL_law_1299 rfl ?_
                                      refine h_iload dL_law_1300 rfl ?_
                                      refine h_iconst (1 : Int32) dL_law_1302 k_iconst_1 ?_
                                      refine h_iadd dL_law_1303 ?_
                                      refine h_scr hscr dL_law_1304 g37 ?_
                                      refine h_aload_n dL_law_1305 rfl ?_
                                      refine h_iload dL_law_1306 rfl ?_
                                      refine h_iconst (2 : Int32) dL_law_1308 k_iconst_2 ?_
                                      refine h_iadd dL_law_1309 ?_
                                      refine h_scr hscr dL_law_1310 g38 ?_
                                      refine h_aload_n dL_law_1311 rfl ?_
                                      refine h_iload dL_law_1312 rfl ?_
                                      refine h_iconst (3 : Int32) dL_law_1314 k_iconst_3 ?_
                                      refine h_iadd dL_law_1315 ?_
                                      refine h_scr hscr dL_law_1316 g39 ?_
                                      obtain ⟨y55, hh55, h⟩ := obd_some h
                                      refine h_cVi [.inl (xs (v4 + (1 : Int32)).toNatClampNeg), .inl (xs (v4 + (2 : Int32)).toNatClampNeg), .inl (xs (v4 + (3 : Int32)).toNatClampNeg)] (m_X8_feast  hh55) cw_L_166 dL_law_1317 rfl ok_8 (by decide) rfl (Or.inr rfl) rfl ?_
                                      refine h_istore dL_law_1320 (by decide) rfl ?_
                                      refine h_aload_n dL_law_1322 rfl ?_
                                      obtain ⟨y56, hh56, h⟩ := obd_some h
                                      refine h_cVi [] (m_X8_thrown  hh56) cw_L_114 dL_law_1323 rfl ok_8 (by decide) rfl (Or.inr rfl) rfl ?_
                                      refine h_iload dL_law_1326 rfl ?_
                                      refine h_icmp_eq (tgt := 1333) dL_law_1328 (by decide) (fun q83 => ?_) (fun q83 => ?_)
                                      · rw [if_pos q83] at h
                                        refine h_iload dL_law_1333 rfl ?_
                                        refine h_if_ne (tgt := 1350) dL_law_1335 (by decide) (fun q84 => ?_) (fun q84 => ?_)
                                        · rw [if_neg q84] at h
                                          refine h_goto (tgt := 2211) dL_law_1350 (by decide) ?_
                                          refine h_iinc (6 : Int32) dL_law_2211 rfl k_iinc_6 (by decide) rfl ?_
                                          refine h_goto (tgt := 23) dL_law_2214 (by decide) ?_
                                          exact h_mask [true, true, true, true, true, false, false] (H23 _ _ _ _ _ _ h)
                                        · rw [if_pos q84] at h
                                          refine h_aload_n dL_law_1338 rfl ?_
                                          refine h_iconst (0 : Int32) dL_law_1339 k_iconst_0 ?_
                                          refine h_lald0 dL_law_1340 ?_
                                          refine h_iload dL_law_1341 rfl ?_
                                          refine h_i2l dL_law_1343 ?_
                                          refine h_lcmp dL_law_1344 ?_
                                          refine h_if_eq (tgt := 1350) dL_law_1345 (by decide) (fun q85 => ?_) (fun q85 => ?_)
                                          · rw [if_pos q85] at h
                                            refine h_goto (tgt := 2211) dL_law_1350 (by decide) ?_
                                            refine h_iinc (6 : Int32) dL_law_2211 rfl k_iinc_6 (by decide) rfl ?_
                                            refine h_goto (tgt := 23) dL_law_2214 (by decide) ?_
                                            exact h_mask [true, true, true, true, true, false, false] (H23 _ _ _ _ _ _ h)
                                          · rw [if_neg q85] at h
                                            refine h_iconst (0 : Int32) dL_law_1348 k_iconst_0 ?_
                                            cases h
                                            exact h_zret dL_law_1349 rfl rfl E
                                      · rw [if_neg q83] at h
                                        refine h_iconst (0 : Int32) dL_law_1331 k_iconst_0 ?_
                                        cases h
                                        exact h_zret dL_law_1332 rfl rfl E
                                    · rw [if_neg q82] at h
                                      by_cases q86 : ((xs v4.toNatClampNeg) &&& (63 : Int32)) = (17 : Int32)
                                      · rw [if_pos q86] at h
                                        refine h_tswIn (tgt := 1353) 17 dL_law_40 (by rw [q86]; decide) (by decide) rfl (by decide) ?_
                                        refine h_aload_n dL_law_1353 rfl ?_
                                        refine h_aload_n dL_law_1354 rfl ?_
                                        refine h_iload dL_law_1355 rfl ?_
                                        refine h_iconst (1 : Int32) dL_law_1357 k_iconst_1 ?_
                                        refine h_iadd dL_law_1358 ?_
                                        obtain ⟨g40, h⟩ := gd_some h
                                        refine h_scr hscr dL_law_1359 g40 ?_
                                        refine h_aload_n dL_law_1360 rfl ?_
                                        refine h_iload dL_law_1361 rfl ?_
                                        refine h_iconst (2 : Int32) dL_law_1363 k_iconst_2 ?_
                                        refine h_iadd dL_law_1364 ?_
                                        obtain ⟨g41, h⟩ := gd_some h
                                        refine h_scr hscr dL_law_1365 g41 ?_
                                        refine h_aload_n dL_law_1366 rfl ?_
                                        refine h_iload dL_law_1367 rfl ?_
                                        refine h_iconst (3 : Int32) dL_law_1369 k_iconst_3 ?_
                                        refine h_iadd dL_law_1370 ?_
                                        obtain ⟨g42, h⟩ := gd_some h
                                        refine h_scr hscr dL_law_1371 g42 ?_
                                        refine h_aload_n dL_law_1372 rfl ?_
                                        obtain ⟨y57, hh57, h⟩ := obd_some h
                                        refine h_callSW [.inr (.inr (7, 0, 0)), .inl (xs (v4 + (1 : Int32)).toNatClampNeg), .inl (xs (v4 + (2 : Int32)).toNatClampNeg), .inl (xs (v4 + (3 : Int32)).toNatClampNeg), .inr (.inr (86, 0, 0))] (m_L_flood hh57) cx_L_167 dL_law_1373 rfl (by decide) rfl (Or.inl rfl) rfl ?_
                                        refine h_istore dL_law_1376 (by decide) rfl ?_
                                        refine h_aload_n dL_law_1378 rfl ?_
                                        refine h_aload_n dL_law_1379 rfl ?_
                                        refine h_iload dL_law_1380 rfl ?_
                                        refine h_iconst (1 : Int32) dL_law_1382 k_iconst_1 ?_
                                        refine h_iadd dL_law_1383 ?_
                                        refine h_scr hscr dL_law_1384 g40 ?_
                                        refine h_aload_n dL_law_1385 rfl ?_
                                        refine h_iload dL_law_1386 rfl ?_
                                        refine h_iconst (2 : Int32) dL_law_1388 k_iconst_2 ?_
                                        refine h_iadd dL_law_1389 ?_
                                        refine h_scr hscr dL_law_1390 g41 ?_
                                        refine h_aload_n dL_law_1391 rfl ?_
                                        refine h_iload dL_law_1392 rfl ?_
                                        refine h_iconst (3 : Int32) dL_law_1394 k_iconst_3 ?_
                                        refine h_iadd dL_law_1395 ?_
                                        refine h_scr hscr dL_law_1396 g42 ?_
                                        obtain ⟨y58, hh58, h⟩ := obd_some h
                                        refine h_cVi [.inl (xs (v4 + (1 : Int32)).toNatClampNeg), .inl (xs (v4 + (2 : Int32)).toNatClampNeg), .inl (xs (v4 + (3 : Int32)).toNatClampNeg)] (m_X8_flood  hh58) cw_L_169 dL_law_1397 rfl ok_8 (by decide) rfl (Or.inr rfl) rfl ?_
                                        refine h_istore dL_law_1400 (by decide) rfl ?_
                                        refine h_aload_n dL_law_1402 rfl ?_
                                        obtain ⟨y59, hh59, h⟩ := obd_some h
                                        refine h_cVi [] (m_X8_thrown  hh59) cw_L_114 dL_law_1403 rfl ok_8 (by decide) rfl (Or.inr rfl) rfl ?_
                                        refine h_iload dL_law_1406 rfl ?_
                                        refine h_icmp_eq (tgt := 1413) dL_law_1408 (by decide) (fun q87 => ?_) (fun q87 => ?_)
                                        · rw [if_pos q87] at h
                                          refine h_iload dL_law_1413 rfl ?_
                                          refine h_if_ne (tgt := 1430) dL_law_1415 (by decide) (fun q88 => ?_) (fun q88 => ?_)
                                          · rw [if_neg q88] at h
                                            refine h_goto (tgt := 2211) dL_law_1430 (by decide) ?_
                                            refine h_iinc (6 : Int32) dL_law_2211 rfl k_iinc_6 (by decide) rfl ?_
                                            refine h_goto (tgt := 23) dL_law_2214 (by decide) ?_
                                            exact h_mask [true, true, true, true, true, false, false] (H23 _ _ _ _ _ _ h)
                                          · rw [if_pos q88] at h
                                            refine h_aload_n dL_law_1418 rfl ?_
                                            refine h_iconst (0 : Int32) dL_law_1419 k_iconst_0 ?_
                                            refine h_lald0 dL_law_1420 ?_
                                            refine h_iload dL_law_1421 rfl ?_
                                            refine h_i2l dL_law_1423 ?_
                                            refine h_lcmp dL_law_1424 ?_
                                            refine h_if_eq (tgt := 1430) dL_law_1425 (by decide) (fun q89 => ?_) (fun q89 => ?_)
                                            · rw [if_pos q89] at h
                                              refine h_goto (tgt := 2211) dL_law_1430 (by decide) ?_
                                              refine h_iinc (6 : Int32) dL_law_2211 rfl k_iinc_6 (by decide) rfl ?_
                                              refine h_goto (tgt := 23) dL_law_2214 (by decide) ?_
                                              exact h_mask [true, true, true, true, true, false, false] (H23 _ _ _ _ _ _ h)
                                            · rw [if_neg q89] at h
                                              refine h_iconst (0 : Int32) dL_law_1428 k_iconst_0 ?_
                                              cases h
                                              exact h_zret dL_law_1429 rfl rfl E
                                        · rw [if_neg q87] at h
                                          refine h_iconst (0 : Int32) dL_law_1411 k_iconst_0 ?_
                                          cases h
                                          exact h_zret dL_law_1412 rfl rfl E
                                      · rw [if_neg q86] at h
                                        by_cases q90 : ((xs v4.toNatClampNeg) &&& (63 : Int32)) = (18 : Int32)
                                        · rw [if_pos q90] at h
                                          refine h_tswIn (tgt := 1433) 18 dL_law_40 (by rw [q90]; decide) (by decide) rfl (by decide) ?_
                                          refine h_aload_n dL_law_1433 rfl ?_
                                          obtain ⟨y60, hh60, h⟩ := obd_some h
                                          refine h_cVi [] (m_X7_undo  hh60) cw_L_170 dL_law_1434 rfl ok_7 (by decide) rfl (Or.inr rfl) rfl ?_
                                          refine h_aload_n dL_law_1437 rfl ?_
                                          obtain ⟨y61, hh61, h⟩ := obd_some h
                                          refine h_cVi [] (m_X8_undo  hh61) cw_L_173 dL_law_1438 rfl ok_8 (by decide) rfl (Or.inr rfl) rfl ?_
                                          refine h_icmp_eq (tgt := 2211) dL_law_1441 (by decide) (fun q91 => ?_) (fun q91 => ?_)
                                          · rw [if_pos q91] at h
                                            refine h_iinc (6 : Int32) dL_law_2211 rfl k_iinc_6 (by decide) rfl ?_
                                            refine h_goto (tgt := 23) dL_law_2214 (by decide) ?_
                                            exact (H23 _ _ _ _ _ _ h)
                                          · rw [if_neg q91] at h
                                            refine h_iconst (0 : Int32) dL_law_1444 k_iconst_0 ?_
                                            cases h
                                            exact h_zret dL_law_1445 rfl rfl E
                                        · rw [if_neg q90] at h
                                          by_cases q92 : ((xs v4.toNatClampNeg) &&& (63 : Int32)) = (19 : Int32)
                                          · rw [if_pos q92] at h
                                            refine h_tswIn (tgt := 1446) 19 dL_law_40 (by rw [q92]; decide) (by decide) rfl (by decide) ?_
                                            refine h_aload_n dL_law_1446 rfl ?_
                                            refine h_aload_n dL_law_1447 rfl ?_
                                            refine h_iload dL_law_1448 rfl ?_
                                            refine h_iconst (1 : Int32) dL_law_1450 k_iconst_1 ?_
                                            refine h_iadd dL_law_1451 ?_
                                            obtain ⟨g43, h⟩ := gd_some h
                                            refine h_scr hscr dL_law_1452 g43 ?_
                                            refine h_aload_n dL_law_1453 rfl ?_
                                            obtain ⟨y62, hh62, h⟩ := obd_some h
                                            refine h_callSW [.inr (.inr (7, 0, 0)), .inl (xs (v4 + (1 : Int32)).toNatClampNeg), .inr (.inr (86, 0, 0))] (m_L_burn hh62) cx_L_174 dL_law_1454 rfl (by decide) rfl (Or.inl rfl) rfl ?_
                                            refine h_istore dL_law_1457 (by decide) rfl ?_
                                            refine h_aload_n dL_law_1459 rfl ?_
                                            refine h_aload_n dL_law_1460 rfl ?_
                                            refine h_iload dL_law_1461 rfl ?_
                                            refine h_iconst (1 : Int32) dL_law_1463 k_iconst_1 ?_
                                            refine h_iadd dL_law_1464 ?_
                                            refine h_scr hscr dL_law_1465 g43 ?_
                                            obtain ⟨y63, hh63, h⟩ := obd_some h
                                            refine h_cVi [.inl (xs (v4 + (1 : Int32)).toNatClampNeg)] (m_X8_burn  hh63) cw_L_176 dL_law_1466 rfl ok_8 (by decide) rfl (Or.inr rfl) rfl ?_
                                            refine h_istore dL_law_1469 (by decide) rfl ?_
                                            refine h_aload_n dL_law_1471 rfl ?_
                                            obtain ⟨y64, hh64, h⟩ := obd_some h
                                            refine h_cVi [] (m_X8_thrown  hh64) cw_L_114 dL_law_1472 rfl ok_8 (by decide) rfl (Or.inr rfl) rfl ?_
                                            refine h_iload dL_law_1475 rfl ?_
                                            refine h_icmp_eq (tgt := 1482) dL_law_1477 (by decide) (fun q93 => ?_) (fun q93 => ?_)
                                            · rw [if_pos q93] at h
                                              refine h_iload dL_law_1482 rfl ?_
                                              refine h_if_ne (tgt := 1499) dL_law_1484 (by decide) (fun q94 => ?_) (fun q94 => ?_)
                                              · rw [if_neg q94] at h
                                                refine h_goto (tgt := 2211) dL_law_1499 (by decide) ?_
                                                refine h_iinc (6 : Int32) dL_law_2211 rfl k_iinc_6 (by decide) rfl ?_
                                                refine h_goto (tgt := 23) dL_law_2214 (by decide) ?_
                                                exact h_mask [true, true, true, true, true, false, false] (H23 _ _ _ _ _ _ h)
                                              · rw [if_pos q94] at h
                                                refine h_aload_n dL_law_1487 rfl ?_
                                                refine h_iconst (0 : Int32) dL_law_1488 k_iconst_0 ?_
                                                refine h_lald0 dL_law_1489 ?_
                                                refine h_iload dL_law_1490 rfl ?_
                                                refine h_i2l dL_law_1492 ?_
                                                refine h_lcmp dL_law_1493 ?_
                                                refine h_if_eq (tgt := 1499) dL_law_1494 (by decide) (fun q95 => ?_) (fun q95 => ?_)
                                                · rw [if_pos q95] at h
                                                  refine h_goto (tgt := 2211) dL_law_1499 (by decide) ?_
                                                  refine h_iinc (6 : Int32) dL_law_2211 rfl k_iinc_6 (by decide) rfl ?_
                                                  refine h_goto (tgt := 23) dL_law_2214 (by decide) ?_
                                                  exact h_mask [true, true, true, true, true, false, false] (H23 _ _ _ _ _ _ h)
                                                · rw [if_neg q95] at h
                                                  refine h_iconst (0 : Int32) dL_law_1497 k_iconst_0 ?_
                                                  cases h
                                                  exact h_zret dL_law_1498 rfl rfl E
                                            · rw [if_neg q93] at h
                                              refine h_iconst (0 : Int32) dL_law_1480 k_iconst_0 ?_
                                              cases h
                                              exact h_zret dL_law_1481 rfl rfl E
                                          · rw [if_neg q92] at h
                                            by_cases q96 : ((xs v4.toNatClampNeg) &&& (63 : Int32)) = (20 : Int32)
                                            · rw [if_pos q96] at h
                                              refine h_tswIn (tgt := 1502) 20 dL_law_40 (by rw [q96]; decide) (by decide) rfl (by decide) ?_
                                              refine h_aload_n dL_law_1502 rfl ?_
                                              refine h_aload_n dL_law_1503 rfl ?_
                                              refine h_iload dL_law_1504 rfl ?_
                                              refine h_iconst (1 : Int32) dL_law_1506 k_iconst_1 ?_
                                              refine h_iadd dL_law_1507 ?_
                                              obtain ⟨g44, h⟩ := gd_some h
                                              refine h_scr hscr dL_law_1508 g44 ?_
                                              refine h_aload_n dL_law_1509 rfl ?_
                                              refine h_iload dL_law_1510 rfl ?_
                                              refine h_iconst (2 : Int32) dL_law_1512 k_iconst_2 ?_
                                              refine h_iadd dL_law_1513 ?_
                                              obtain ⟨g45, h⟩ := gd_some h
                                              refine h_scr hscr dL_law_1514 g45 ?_
                                              refine h_aload_n dL_law_1515 rfl ?_
                                              obtain ⟨y65, hh65, h⟩ := obd_some h
                                              refine h_callSW [.inr (.inr (7, 0, 0)), .inl (xs (v4 + (1 : Int32)).toNatClampNeg), .inl (xs (v4 + (2 : Int32)).toNatClampNeg), .inr (.inr (86, 0, 0))] (m_L_when hh65) cx_L_177 dL_law_1516 rfl (by decide) rfl (Or.inl rfl) rfl ?_
                                              refine h_istore dL_law_1519 (by decide) rfl ?_
                                              refine h_aload_n dL_law_1521 rfl ?_
                                              refine h_aload_n dL_law_1522 rfl ?_
                                              refine h_iload dL_law_1523 rfl ?_
                                              refine h_iconst (1 : Int32) dL_law_1525 k_iconst_1 ?_
                                              refine h_iadd dL_law_1526 ?_
                                              refine h_scr hscr dL_law_1527 g44 ?_
                                              refine h_aload_n dL_law_1528 rfl ?_
                                              refine h_iload dL_law_1529 rfl ?_
                                              refine h_iconst (2 : Int32) dL_law_1531 k_iconst_2 ?_
                                              refine h_iadd dL_law_1532 ?_
                                              refine h_scr hscr dL_law_1533 g45 ?_
                                              obtain ⟨y66, hh66, h⟩ := obd_some h
                                              refine h_cVi [.inl (xs (v4 + (1 : Int32)).toNatClampNeg), .inl (xs (v4 + (2 : Int32)).toNatClampNeg)] (m_X8_when  hh66) cw_L_179 dL_law_1534 rfl ok_8 (by decide) rfl (Or.inr rfl) rfl ?_
                                              refine h_istore dL_law_1537 (by decide) rfl ?_
                                              refine h_aload_n dL_law_1539 rfl ?_
                                              obtain ⟨y67, hh67, h⟩ := obd_some h
                                              refine h_cVi [] (m_X8_thrown  hh67) cw_L_114 dL_law_1540 rfl ok_8 (by decide) rfl (Or.inr rfl) rfl ?_
                                              refine h_iload dL_law_1543 rfl ?_
                                              refine h_icmp_eq (tgt := 1550) dL_law_1545 (by decide) (fun q97 => ?_) (fun q97 => ?_)
                                              · rw [if_pos q97] at h
                                                refine h_iload dL_law_1550 rfl ?_
                                                refine h_if_ne (tgt := 1567) dL_law_1552 (by decide) (fun q98 => ?_) (fun q98 => ?_)
                                                · rw [if_neg q98] at h
                                                  refine h_goto (tgt := 2211) dL_law_1567 (by decide) ?_
                                                  refine h_iinc (6 : Int32) dL_law_2211 rfl k_iinc_6 (by decide) rfl ?_
                                                  refine h_goto (tgt := 23) dL_law_2214 (by decide) ?_
                                                  exact h_mask [true, true, true, true, true, false, false] (H23 _ _ _ _ _ _ h)
                                                · rw [if_pos q98] at h
                                                  refine h_aload_n dL_law_1555 rfl ?_
                                                  refine h_iconst (0 : Int32) dL_law_1556 k_iconst_0 ?_
                                                  refine h_lald0 dL_law_1557 ?_
                                                  refine h_iload dL_law_1558 rfl ?_
                                                  refine h_i2l dL_law_1560 ?_
                                                  refine h_lcmp dL_law_1561 ?_
                                                  refine h_if_eq (tgt := 1567) dL_law_1562 (by decide) (fun q99 => ?_) (fun q99 => ?_)
                                                  · rw [if_pos q99] at h
                                                    refine h_goto (tgt := 2211) dL_law_1567 (by decide) ?_
                                                    refine h_iinc (6 : Int32) dL_law_2211 rfl k_iinc_6 (by decide) rfl ?_
                                                    refine h_goto (tgt := 23) dL_law_2214 (by decide) ?_
                                                    exact h_mask [true, true, true, true, true, false, false] (H23 _ _ _ _ _ _ h)
                                                  · rw [if_neg q99] at h
                                                    refine h_iconst (0 : Int32) dL_law_1565 k_iconst_0 ?_
                                                    cases h
                                                    exact h_zret dL_law_1566 rfl rfl E
                                              · rw [if_neg q97] at h
                                                refine h_iconst (0 : Int32) dL_law_1548 k_iconst_0 ?_
                                                cases h
                                                exact h_zret dL_law_1549 rfl rfl E
                                            · rw [if_neg q96] at h
                                              by_cases q100 : ((xs v4.toNatClampNeg) &&& (63 : Int32)) = (21 : Int32)
                                              · rw [if_pos q100] at h
                                                refine h_tswIn (tgt := 1570) 21 dL_law_40 (by rw [q100]; decide) (by decide) rfl (by decide) ?_
                                                refine h_aload_n dL_law_1570 rfl ?_
                                                refine h_aload_n dL_law_1571 rfl ?_
                                                refine h_iload dL_law_1572 rfl ?_
                                                refine h_iconst (1 : Int32) dL_law_1574 k_iconst_1 ?_
                                                refine h_iadd dL_law_1575 ?_
                                                obtain ⟨g46, h⟩ := gd_some h
                                                refine h_scr hscr dL_law_1576 g46 ?_
                                                refine h_aload_n dL_law_1577 rfl ?_
                                                obtain ⟨y68, hh68, h⟩ := obd_some h
                                                refine h_callSW [.inr (.inr (7, 0, 0)), .inl (xs (v4 + (1 : Int32)).toNatClampNeg), .inr (.inr (86, 0, 0))] (m_L_round hh68) cx_L_180 dL_law_1578 rfl (by decide) rfl (Or.inl rfl) rfl ?_
                                                refine h_istore dL_law_1581 (by decide) rfl ?_
                                                refine h_aload_n dL_law_1583 rfl ?_
                                                refine h_aload_n dL_law_1584 rfl ?_
                                                refine h_iload dL_law_1585 rfl ?_
                                                refine h_iconst (1 : Int32) dL_law_1587 k_iconst_1 ?_
                                                refine h_iadd dL_law_1588 ?_
                                                refine h_scr hscr dL_law_1589 g46 ?_
                                                obtain ⟨y69, hh69, h⟩ := obd_some h
                                                refine h_cVi [.inl (xs (v4 + (1 : Int32)).toNatClampNeg)] (m_X8_round  hh69) cw_L_182 dL_law_1590 rfl ok_8 (by decide) rfl (Or.inr rfl) rfl ?_
                                                refine h_istore dL_law_1593 (by decide) rfl ?_
                                                refine h_aload_n dL_law_1595 rfl ?_
                                                obtain ⟨y70, hh70, h⟩ := obd_some h
                                                refine h_cVi [] (m_X8_thrown  hh70) cw_L_114 dL_law_1596 rfl ok_8 (by decide) rfl (Or.inr rfl) rfl ?_
                                                refine h_iload dL_law_1599 rfl ?_
                                                refine h_icmp_eq (tgt := 1606) dL_law_1601 (by decide) (fun q101 => ?_) (fun q101 => ?_)
                                                · rw [if_pos q101] at h
                                                  refine h_iload dL_law_1606 rfl ?_
                                                  refine h_if_ne (tgt := 1623) dL_law_1608 (by decide) (fun q102 => ?_) (fun q102 => ?_)
                                                  · rw [if_neg q102] at h
                                                    refine h_goto (tgt := 2211) dL_law_1623 (by decide) ?_
                                                    refine h_iinc (6 : Int32) dL_law_2211 rfl k_iinc_6 (by decide) rfl ?_
                                                    refine h_goto (tgt := 23) dL_law_2214 (by decide) ?_
                                                    exact h_mask [true, true, true, true, true, false, false] (H23 _ _ _ _ _ _ h)
                                                  · rw [if_pos q102] at h
                                                    refine h_aload_n dL_law_1611 rfl ?_
                                                    refine h_iconst (0 : Int32) dL_law_1612 k_iconst_0 ?_
                                                    refine h_lald0 dL_law_1613 ?_
                                                    refine h_iload dL_law_1614 rfl ?_
                                                    refine h_i2l dL_law_1616 ?_
                                                    refine h_lcmp dL_law_1617 ?_
                                                    refine h_if_eq (tgt := 1623) dL_law_1618 (by decide) (fun q103 => ?_) (fun q103 => ?_)
                                                    · rw [if_pos q103] at h
                                                      refine h_goto (tgt := 2211) dL_law_1623 (by decide) ?_
                                                      refine h_iinc (6 : Int32) dL_law_2211 rfl k_iinc_6 (by decide) rfl ?_
                                                      refine h_goto (tgt := 23) dL_law_2214 (by decide) ?_
                                                      exact h_mask [true, true, true, true, true, false, false] (H23 _ _ _ _ _ _ h)
                                                    · rw [if_neg q103] at h
                                                      refine h_iconst (0 : Int32) dL_law_1621 k_iconst_0 ?_
                                                      cases h
                                                      exact h_zret dL_law_1622 rfl rfl E
                                                · rw [if_neg q101] at h
                                                  refine h_iconst (0 : Int32) dL_law_1604 k_iconst_0 ?_
                                                  cases h
                                                  exact h_zret dL_law_1605 rfl rfl E
                                              · rw [if_neg q100] at h
                                                by_cases q104 : ((xs v4.toNatClampNeg) &&& (63 : Int32)) = (22 : Int32)
                                                · rw [if_pos q104] at h
                                                  refine h_tswIn (tgt := 1626) 22 dL_law_40 (by rw [q104]; decide) (by decide) rfl (by decide) ?_
                                                  refine h_aload_n dL_law_1626 rfl ?_
                                                  refine h_aload_n dL_law_1627 rfl ?_
                                                  refine h_iload dL_law_1628 rfl ?_
                                                  refine h_iconst (1 : Int32) dL_law_1630 k_iconst_1 ?_
                                                  refine h_iadd dL_law_1631 ?_
                                                  obtain ⟨g47, h⟩ := gd_some h
                                                  refine h_scr hscr dL_law_1632 g47 ?_
                                                  refine h_aload_n dL_law_1633 rfl ?_
                                                  refine h_iload dL_law_1634 rfl ?_
                                                  refine h_iconst (2 : Int32) dL_law_1636 k_iconst_2 ?_
                                                  refine h_iadd dL_law_1637 ?_
                                                  obtain ⟨g48, h⟩ := gd_some h
                                                  refine h_scr hscr dL_law_1638 g48 ?_
                                                  refine h_aload_n dL_law_1639 rfl ?_
                                                  obtain ⟨y71, hh71, h⟩ := obd_some h
                                                  refine h_callSW [.inr (.inr (7, 0, 0)), .inl (xs (v4 + (1 : Int32)).toNatClampNeg), .inl (xs (v4 + (2 : Int32)).toNatClampNeg), .inr (.inr (86, 0, 0))] (m_L_free hh71) cx_L_183 dL_law_1640 rfl (by decide) rfl (Or.inl rfl) rfl ?_
                                                  refine h_istore dL_law_1643 (by decide) rfl ?_
                                                  refine h_aload_n dL_law_1645 rfl ?_
                                                  refine h_aload_n dL_law_1646 rfl ?_
                                                  refine h_iload dL_law_1647 rfl ?_
                                                  refine h_iconst (1 : Int32) dL_law_1649 k_iconst_1 ?_
                                                  refine h_iadd dL_law_1650 ?_
                                                  refine h_scr hscr dL_law_1651 g47 ?_
                                                  refine h_aload_n dL_law_1652 rfl ?_
                                                  refine h_iload dL_law_1653 rfl ?_
                                                  refine h_iconst (2 : Int32) dL_law_1655 k_iconst_2 ?_
                                                  refine h_iadd dL_law_1656 ?_
                                                  refine h_scr hscr dL_law_1657 g48 ?_
                                                  obtain ⟨y72, hh72, h⟩ := obd_some h
                                                  refine h_cVi [.inl (xs (v4 + (1 : Int32)).toNatClampNeg), .inl (xs (v4 + (2 : Int32)).toNatClampNeg)] (m_X8_free  hh72) cw_L_185 dL_law_1658 rfl ok_8 (by decide) rfl (Or.inr rfl) rfl ?_
                                                  refine h_istore dL_law_1661 (by decide) rfl ?_
                                                  refine h_aload_n dL_law_1663 rfl ?_
                                                  obtain ⟨y73, hh73, h⟩ := obd_some h
                                                  refine h_cVi [] (m_X8_thrown  hh73) cw_L_114 dL_law_1664 rfl ok_8 (by decide) rfl (Or.inr rfl) rfl ?_
                                                  refine h_iload dL_law_1667 rfl ?_
                                                  refine h_icmp_eq (tgt := 1674) dL_law_1669 (by decide) (fun q105 => ?_) (fun q105 => ?_)
                                                  · rw [if_pos q105] at h
                                                    refine h_iload dL_law_1674 rfl ?_
                                                    refine h_if_ne (tgt := 1691) dL_law_1676 (by decide) (fun q106 => ?_) (fun q106 => ?_)
                                                    · rw [if_neg q106] at h
                                                      refine h_goto (tgt := 2211) dL_law_1691 (by decide) ?_
                                                      refine h_iinc (6 : Int32) dL_law_2211 rfl k_iinc_6 (by decide) rfl ?_
                                                      refine h_goto (tgt := 23) dL_law_2214 (by decide) ?_
                                                      exact h_mask [true, true, true, true, true, false, false] (H23 _ _ _ _ _ _ h)
                                                    · rw [if_pos q106] at h
                                                      refine h_aload_n dL_law_1679 rfl ?_
                                                      refine h_iconst (0 : Int32) dL_law_1680 k_iconst_0 ?_
                                                      refine h_lald0 dL_law_1681 ?_
                                                      refine h_iload dL_law_1682 rfl ?_
                                                      refine h_i2l dL_law_1684 ?_
                                                      refine h_lcmp dL_law_1685 ?_
                                                      refine h_if_eq (tgt := 1691) dL_law_1686 (by decide) (fun q107 => ?_) (fun q107 => ?_)
                                                      · rw [if_pos q107] at h
                                                        refine h_goto (tgt := 2211) dL_law_1691 (by decide) ?_
                                                        refine h_iinc (6 : Int32) dL_law_2211 rfl k_iinc_6 (by decide) rfl ?_
                                                        refine h_goto (tgt := 23) dL_law_2214 (by decide) ?_
                                                        exact h_mask [true, true, true, true, true, false, false] (H23 _ _ _ _ _ _ h)
                                                      · rw [if_neg q107] at h
                                                        refine h_iconst (0 : Int32) dL_law_1689 k_iconst_0 ?_
                                                        cases h
                                                        exact h_zret dL_law_1690 rfl rfl E
                                                  · rw [if_neg q105] at h
                                                    refine h_iconst (0 : Int32) dL_law_1672 k_iconst_0 ?_
                                                    cases h
                                                    exact h_zret dL_law_1673 rfl rfl E
                                                · rw [if_neg q104] at h
                                                  by_cases q108 : ((xs v4.toNatClampNeg) &&& (63 : Int32)) = (23 : Int32)
                                                  · rw [if_pos q108] at h
                                                    refine h_tswIn (tgt := 1694) 23 dL_law_40 (by rw [q108]; decide) (by decide) rfl (by decide) ?_
                                                    refine h_aload_n dL_law_1694 rfl ?_
                                                    refine h_aload_n dL_law_1695 rfl ?_
                                                    refine h_iload dL_law_1696 rfl ?_
                                                    refine h_iconst (1 : Int32) dL_law_1698 k_iconst_1 ?_
                                                    refine h_iadd dL_law_1699 ?_
                                                    obtain ⟨g49, h⟩ := gd_some h
                                                    refine h_scr hscr dL_law_1700 g49 ?_
                                                    refine h_aload_n dL_law_1701 rfl ?_
                                                    obtain ⟨y74, hh74, h⟩ := obd_some h
                                                    refine h_callSW [.inr (.inr (7, 0, 0)), .inl (xs (v4 + (1 : Int32)).toNatClampNeg), .inr (.inr (86, 0, 0))] (m_L_mercy hh74) cx_L_186 dL_law_1702 rfl (by decide) rfl (Or.inl rfl) rfl ?_
                                                    refine h_istore dL_law_1705 (by decide) rfl ?_
                                                    refine h_aload_n dL_law_1707 rfl ?_
                                                    refine h_aload_n dL_law_1708 rfl ?_
                                                    refine h_iload dL_law_1709 rfl ?_
                                                    refine h_iconst (1 : Int32) dL_law_1711 k_iconst_1 ?_
                                                    refine h_iadd dL_law_1712 ?_
                                                    refine h_scr hscr dL_law_1713 g49 ?_
                                                    obtain ⟨y75, hh75, h⟩ := obd_some h
                                                    refine h_cVi [.inl (xs (v4 + (1 : Int32)).toNatClampNeg)] (m_X8_mercy  hh75) cw_L_188 dL_law_1714 rfl ok_8 (by decide) rfl (Or.inr rfl) rfl ?_
                                                    refine h_istore dL_law_1717 (by decide) rfl ?_
                                                    refine h_aload_n dL_law_1719 rfl ?_
                                                    obtain ⟨y76, hh76, h⟩ := obd_some h
                                                    refine h_cVi [] (m_X8_thrown  hh76) cw_L_114 dL_law_1720 rfl ok_8 (by decide) rfl (Or.inr rfl) rfl ?_
                                                    refine h_iload dL_law_1723 rfl ?_
                                                    refine h_icmp_eq (tgt := 1730) dL_law_1725 (by decide) (fun q109 => ?_) (fun q109 => ?_)
                                                    · rw [if_pos q109] at h
                                                      refine h_iload dL_law_1730 rfl ?_
                                                      refine h_if_ne (tgt := 1747) dL_law_1732 (by decide) (fun q110 => ?_) (fun q110 => ?_)
                                                      · rw [if_neg q110] at h
                                                        refine h_goto (tgt := 2211) dL_law_1747 (by decide) ?_
                                                        refine h_iinc (6 : Int32) dL_law_2211 rfl k_iinc_6 (by decide) rfl ?_
                                                        refine h_goto (tgt := 23) dL_law_2214 (by decide) ?_
                                                        exact h_mask [true, true, true, true, true, false, false] (H23 _ _ _ _ _ _ h)
                                                      · rw [if_pos q110] at h
                                                        refine h_aload_n dL_law_1735 rfl ?_
                                                        refine h_iconst (0 : Int32) dL_law_1736 k_iconst_0 ?_
                                                        refine h_lald0 dL_law_1737 ?_
                                                        refine h_iload dL_law_1738 rfl ?_
                                                        refine h_i2l dL_law_1740 ?_
                                                        refine h_lcmp dL_law_1741 ?_
                                                        refine h_if_eq (tgt := 1747) dL_law_1742 (by decide) (fun q111 => ?_) (fun q111 => ?_)
                                                        · rw [if_pos q111] at h
                                                          refine h_goto (tgt := 2211) dL_law_1747 (by decide) ?_
                                                          refine h_iinc (6 : Int32) dL_law_2211 rfl k_iinc_6 (by decide) rfl ?_
                                                          refine h_goto (tgt := 23) dL_law_2214 (by decide) ?_
                                                          exact h_mask [true, true, true, true, true, false, false] (H23 _ _ _ _ _ _ h)
                                                        · rw [if_neg q111] at h
                                                          refine h_iconst (0 : Int32) dL_law_1745 k_iconst_0 ?_
                                                          cases h
                                                          exact h_zret dL_law_1746 rfl rfl E
                                                    · rw [if_neg q109] at h
                                                      refine h_iconst (0 : Int32) dL_law_1728 k_iconst_0 ?_
                                                      cases h
                                                      exact h_zret dL_law_1729 rfl rfl E
                                                  · rw [if_neg q108] at h
                                                    by_cases q112 : ((xs v4.toNatClampNeg) &&& (63 : Int32)) = (24 : Int32)
                                                    · rw [if_pos q112] at h
                                                      refine h_tswIn (tgt := 1750) 24 dL_law_40 (by rw [q112]; decide) (by decide) rfl (by decide) ?_
                                                      refine h_aload_n dL_law_1750 rfl ?_
                                                      refine h_aload_n dL_law_1751 rfl ?_
                                                      refine h_iload dL_law_1752 rfl ?_
                                                      refine h_iconst (1 : Int32) dL_law_1754 k_iconst_1 ?_
                                                      refine h_iadd dL_law_1755 ?_
                                                      obtain ⟨g50, h⟩ := gd_some h
                                                      refine h_scr hscr dL_law_1756 g50 ?_
                                                      refine h_aload_n dL_law_1757 rfl ?_
                                                      obtain ⟨y77, hh77, h⟩ := obd_some h
                                                      refine h_callSW [.inr (.inr (7, 0, 0)), .inl (xs (v4 + (1 : Int32)).toNatClampNeg), .inr (.inr (86, 0, 0))] (m_L_deaf hh77) cx_L_189 dL_law_1758 rfl (by decide) rfl (Or.inl rfl) rfl ?_
                                                      refine h_istore dL_law_1761 (by decide) rfl ?_
                                                      refine h_aload_n dL_law_1763 rfl ?_
                                                      refine h_aload_n dL_law_1764 rfl ?_
                                                      refine h_iload dL_law_1765 rfl ?_
                                                      refine h_iconst (1 : Int32) dL_law_1767 k_iconst_1 ?_
                                                      refine h_iadd dL_law_1768 ?_
                                                      refine h_scr hscr dL_law_1769 g50 ?_
                                                      obtain ⟨y78, hh78, h⟩ := obd_some h
                                                      refine h_cVi [.inl (xs (v4 + (1 : Int32)).toNatClampNeg)] (m_X8_deaf  hh78) cw_L_191 dL_law_1770 rfl ok_8 (by decide) rfl (Or.inr rfl) rfl ?_
                                                      refine h_istore dL_law_1773 (by decide) rfl ?_
                                                      refine h_aload_n dL_law_1775 rfl ?_
                                                      obtain ⟨y79, hh79, h⟩ := obd_some h
                                                      refine h_cVi [] (m_X8_thrown  hh79) cw_L_114 dL_law_1776 rfl ok_8 (by decide) rfl (Or.inr rfl) rfl ?_
                                                      refine h_iload dL_law_1779 rfl ?_
                                                      refine h_icmp_eq (tgt := 1786) dL_law_1781 (by decide) (fun q113 => ?_) (fun q113 => ?_)
                                                      · rw [if_pos q113] at h
                                                        refine h_iload dL_law_1786 rfl ?_
                                                        refine h_if_ne (tgt := 1803) dL_law_1788 (by decide) (fun q114 => ?_) (fun q114 => ?_)
                                                        · rw [if_neg q114] at h
                                                          refine h_goto (tgt := 2211) dL_law_1803 (by decide) ?_
                                                          refine h_iinc (6 : Int32) dL_law_2211 rfl k_iinc_6 (by decide) rfl ?_
                                                          refine h_goto (tgt := 23) dL_law_2214 (by decide) ?_
                                                          exact h_mask [true, true, true, true, true, false, false] (H23 _ _ _ _ _ _ h)
                                                        · rw [if_pos q114] at h
                                                          refine h_aload_n dL_law_1791 rfl ?_
                                                          refine h_iconst (0 : Int32) dL_law_1792 k_iconst_0 ?_
                                                          refine h_lald0 dL_law_1793 ?_
                                                          refine h_iload dL_law_1794 rfl ?_
                                                          refine h_i2l dL_law_1796 ?_
                                                          refine h_lcmp dL_law_1797 ?_
                                                          refine h_if_eq (tgt := 1803) dL_law_1798 (by decide) (fun q115 => ?_) (fun q115 => ?_)
                                                          · rw [if_pos q115] at h
                                                            refine h_goto (tgt := 2211) dL_law_1803 (by decide) ?_
                                                            refine h_iinc (6 : Int32) dL_law_2211 rfl k_iinc_6 (by decide) rfl ?_
                                                            refine h_goto (tgt := 23) dL_law_2214 (by decide) ?_
                                                            exact h_mask [true, true, true, true, true, false, false] (H23 _ _ _ _ _ _ h)
                                                          · rw [if_neg q115] at h
                                                            refine h_iconst (0 : Int32) dL_law_1801 k_iconst_0 ?_
                                                            cases h
                                                            exact h_zret dL_law_1802 rfl rfl E
                                                      · rw [if_neg q113] at h
                                                        refine h_iconst (0 : Int32) dL_law_1784 k_iconst_0 ?_
                                                        cases h
                                                        exact h_zret dL_law_1785 rfl rfl E
                                                    · rw [if_neg q112] at h
                                                      by_cases q116 : ((xs v4.toNatClampNeg) &&& (63 : Int32)) = (25 : Int32)
                                                      · rw [if_pos q116] at h
                                                        refine h_tswIn (tgt := 1806) 25 dL_law_40 (by rw [q116]; decide) (by decide) rfl (by decide) ?_
                                                        refine h_aload_n dL_law_1806 rfl ?_
                                                        refine h_aload_n dL_law_1807 rfl ?_
                                                        refine h_iload dL_law_1808 rfl ?_
                                                        refine h_iconst (1 : Int32) dL_law_1810 k_iconst_1 ?_
                                                        refine h_iadd dL_law_1811 ?_
                                                        obtain ⟨g51, h⟩ := gd_some h
                                                        refine h_scr hscr dL_law_1812 g51 ?_
                                                        refine h_aload_n dL_law_1813 rfl ?_
                                                        obtain ⟨y80, hh80, h⟩ := obd_some h
                                                        refine h_callSW [.inr (.inr (7, 0, 0)), .inl (xs (v4 + (1 : Int32)).toNatClampNeg), .inr (.inr (86, 0, 0))] (m_L_soonest hh80) cx_L_192 dL_law_1814 rfl (by decide) rfl (Or.inl rfl) rfl ?_
                                                        refine h_istore dL_law_1817 (by decide) rfl ?_
                                                        refine h_aload_n dL_law_1819 rfl ?_
                                                        refine h_aload_n dL_law_1820 rfl ?_
                                                        refine h_iload dL_law_1821 rfl ?_
                                                        refine h_iconst (1 : Int32) dL_law_1823 k_iconst_1 ?_
                                                        refine h_iadd dL_law_1824 ?_
                                                        refine h_scr hscr dL_law_1825 g51 ?_
                                                        obtain ⟨y81, hh81, h⟩ := obd_some h
                                                        refine h_cVi [.inl (xs (v4 + (1 : Int32)).toNatClampNeg)] (m_X8_soonest  hh81) cw_L_194 dL_law_1826 rfl ok_8 (by decide) rfl (Or.inr rfl) rfl ?_
                                                        refine h_istore dL_law_1829 (by decide) rfl ?_
                                                        refine h_aload_n dL_law_1831 rfl ?_
                                                        obtain ⟨y82, hh82, h⟩ := obd_some h
                                                        refine h_cVi [] (m_X8_thrown  hh82) cw_L_114 dL_law_1832 rfl ok_8 (by decide) rfl (Or.inr rfl) rfl ?_
                                                        refine h_iload dL_law_1835 rfl ?_
                                                        refine h_icmp_eq (tgt := 1842) dL_law_1837 (by decide) (fun q117 => ?_) (fun q117 => ?_)
                                                        · rw [if_pos q117] at h
                                                          refine h_iload dL_law_1842 rfl ?_
                                                          refine h_if_ne (tgt := 1859) dL_law_1844 (by decide) (fun q118 => ?_) (fun q118 => ?_)
                                                          · rw [if_neg q118] at h
                                                            refine h_goto (tgt := 2211) dL_law_1859 (by decide) ?_
                                                            refine h_iinc (6 : Int32) dL_law_2211 rfl k_iinc_6 (by decide) rfl ?_
                                                            refine h_goto (tgt := 23) dL_law_2214 (by decide) ?_
                                                            exact h_mask [true, true, true, true, true, false, false] (H23 _ _ _ _ _ _ h)
                                                          · rw [if_pos q118] at h
                                                            refine h_aload_n dL_law_1847 rfl ?_
                                                            refine h_iconst (0 : Int32) dL_law_1848 k_iconst_0 ?_
                                                            refine h_lald0 dL_law_1849 ?_
                                                            refine h_iload dL_law_1850 rfl ?_
                                                            refine h_i2l dL_law_1852 ?_
                                                            refine h_lcmp dL_law_1853 ?_
                                                            refine h_if_eq (tgt := 1859) dL_law_1854 (by decide) (fun q119 => ?_) (fun q119 => ?_)
                                                            · rw [if_pos q119] at h
                                                              refine h_goto (tgt := 2211) dL_law_1859 (by decide) ?_
                                                              refine h_iinc (6 : Int32) dL_law_2211 rfl k_iinc_6 (by decide) rfl ?_
                                                              refine h_goto (tgt := 23) dL_law_2214 (by decide) ?_
                                                              exact h_mask [true, true, true, true, true, false, false] (H23 _ _ _ _ _ _ h)
                                                            · rw [if_neg q119] at h
                                                              refine h_iconst (0 : Int32) dL_law_1857 k_iconst_0 ?_
                                                              cases h
                                                              exact h_zret dL_law_1858 rfl rfl E
                                                        · rw [if_neg q117] at h
                                                          refine h_iconst (0 : Int32) dL_law_1840 k_iconst_0 ?_
                                                          cases h
                                                          exact h_zret dL_law_1841 rfl rfl E
                                                      · rw [if_neg q116] at h
                                                        by_cases q120 : ((xs v4.toNatClampNeg) &&& (63 : Int32)) = (26 : Int32)
                                                        · rw [if_pos q120] at h
                                                          refine h_tswIn (tgt := 1862) 26 dL_law_40 (by rw [q120]; decide) (by decide) rfl (by decide) ?_
                                                          refine h_aload_n dL_law_1862 rfl ?_
                                                          refine h_aload_n dL_law_1863 rfl ?_
                                                          refine h_iload dL_law_1864 rfl ?_
                                                          refine h_iconst (1 : Int32) dL_law_1866 k_iconst_1 ?_
                                                          refine h_iadd dL_law_1867 ?_
                                                          obtain ⟨g52, h⟩ := gd_some h
                                                          refine h_scr hscr dL_law_1868 g52 ?_
                                                          refine h_aload_n dL_law_1869 rfl ?_
                                                          refine h_iload dL_law_1870 rfl ?_
                                                          refine h_iconst (2 : Int32) dL_law_1872 k_iconst_2 ?_
                                                          refine h_iadd dL_law_1873 ?_
                                                          obtain ⟨g53, h⟩ := gd_some h
                                                          refine h_scr hscr dL_law_1874 g53 ?_
                                                          refine h_aload_n dL_law_1875 rfl ?_
                                                          refine h_iload dL_law_1876 rfl ?_
                                                          refine h_iconst (3 : Int32) dL_law_1878 k_iconst_3 ?_
                                                          refine h_iadd dL_law_1879 ?_
                                                          obtain ⟨g54, h⟩ := gd_some h
                                                          refine h_scr hscr dL_law_1880 g54 ?_
                                                          refine h_if_eq (tgt := 1888) dL_law_1881 (by decide) (fun q121 => ?_) (fun q121 => ?_)
                                                          · rw [if_pos q121] at h
                                                            refine h_iconst (0 : Int32) dL_law_1888 k_iconst_0 ?_
                                                            refine h_aload_n dL_law_1889 rfl ?_
                                                            obtain ⟨y83, hh83, h⟩ := obd_some h
                                                            refine h_callSW [.inr (.inr (7, 0, 0)), .inl (xs (v4 + (1 : Int32)).toNatClampNeg), .inl (xs (v4 + (2 : Int32)).toNatClampNeg), .inl (0 : Int32), .inr (.inr (86, 0, 0))] (m_L_see hh83) cx_L_195 dL_law_1890 rfl (by decide) rfl (Or.inl rfl) rfl ?_
                                                            refine h_istore dL_law_1893 (by decide) rfl ?_
                                                            refine h_aload_n dL_law_1895 rfl ?_
                                                            refine h_aload_n dL_law_1896 rfl ?_
                                                            refine h_iload dL_law_1897 rfl ?_
                                                            refine h_iconst (1 : Int32) dL_law_1899 k_iconst_1 ?_
                                                            refine h_iadd dL_law_1900 ?_
                                                            refine h_scr hscr dL_law_1901 g52 ?_
                                                            refine h_aload_n dL_law_1902 rfl ?_
                                                            refine h_iload dL_law_1903 rfl ?_
                                                            refine h_iconst (2 : Int32) dL_law_1905 k_iconst_2 ?_
                                                            refine h_iadd dL_law_1906 ?_
                                                            refine h_scr hscr dL_law_1907 g53 ?_
                                                            refine h_aload_n dL_law_1908 rfl ?_
                                                            refine h_iload dL_law_1909 rfl ?_
                                                            refine h_iconst (3 : Int32) dL_law_1911 k_iconst_3 ?_
                                                            refine h_iadd dL_law_1912 ?_
                                                            refine h_scr hscr dL_law_1913 g54 ?_
                                                            refine h_if_eq (tgt := 1921) dL_law_1914 (by decide) (fun q122 => ?_) (fun q122 => ?_)
                                                            · rw [if_pos q122] at h
                                                              refine h_iconst (0 : Int32) dL_law_1921 k_iconst_0 ?_
                                                              obtain ⟨y84, hh84, h⟩ := obd_some h
                                                              refine h_cVi [.inl (xs (v4 + (1 : Int32)).toNatClampNeg), .inl (xs (v4 + (2 : Int32)).toNatClampNeg), .inl (0 : Int32)] (m_X8_see  hh84) cw_L_198 dL_law_1922 rfl ok_8 (by decide) rfl (Or.inr rfl) rfl ?_
                                                              refine h_istore dL_law_1925 (by decide) rfl ?_
                                                              refine h_aload_n dL_law_1927 rfl ?_
                                                              obtain ⟨y85, hh85, h⟩ := obd_some h
                                                              refine h_cVi [] (m_X8_thrown  hh85) cw_L_114 dL_law_1928 rfl ok_8 (by decide) rfl (Or.inr rfl) rfl ?_
                                                              refine h_iload dL_law_1931 rfl ?_
                                                              refine h_icmp_eq (tgt := 1938) dL_law_1933 (by decide) (fun q123 => ?_) (fun q123 => ?_)
                                                              · rw [if_pos q123] at h
                                                                refine h_iload dL_law_1938 rfl ?_
                                                                refine h_if_ne (tgt := 1955) dL_law_1940 (by decide) (fun q124 => ?_) (fun q124 => ?_)
                                                                · rw [if_neg q124] at h
                                                                  refine h_goto (tgt := 2211) dL_law_1955 (by decide) ?_
                                                                  refine h_iinc (6 : Int32) dL_law_2211 rfl k_iinc_6 (by decide) rfl ?_
                                                                  refine h_goto (tgt := 23) dL_law_2214 (by decide) ?_
                                                                  exact h_mask [true, true, true, true, true, false, false] (H23 _ _ _ _ _ _ h)
                                                                · rw [if_pos q124] at h
                                                                  refine h_aload_n dL_law_1943 rfl ?_
                                                                  refine h_iconst (0 : Int32) dL_law_1944 k_iconst_0 ?_
                                                                  refine h_lald0 dL_law_1945 ?_
                                                                  refine h_iload dL_law_1946 rfl ?_
                                                                  refine h_i2l dL_law_1948 ?_
                                                                  refine h_lcmp dL_law_1949 ?_
                                                                  refine h_if_eq (tgt := 1955) dL_law_1950 (by decide) (fun q125 => ?_) (fun q125 => ?_)
                                                                  · rw [if_pos q125] at h
                                                                    refine h_goto (tgt := 2211) dL_law_1955 (by decide) ?_
                                                                    refine h_iinc (6 : Int32) dL_law_2211 rfl k_iinc_6 (by decide) rfl ?_
                                                                    refine h_goto (tgt := 23) dL_law_2214 (by decide) ?_
                                                                    exact h_mask [true, true, true, true, true, false, false] (H23 _ _ _ _ _ _ h)
                                                                  · rw [if_neg q125] at h
                                                                    refine h_iconst (0 : Int32) dL_law_1953 k_iconst_0 ?_
                                                                    cases h
                                                                    exact h_zret dL_law_1954 rfl rfl E
                                                              · rw [if_neg q123] at h
                                                                refine h_iconst (0 : Int32) dL_law_1936 k_iconst_0 ?_
                                                                cases h
                                                                exact h_zret dL_law_1937 rfl rfl E
                                                            · rw [if_neg q122] at h
                                                              refine h_iconst (1 : Int32) dL_law_1917 k_iconst_1 ?_
                                                              refine h_goto (tgt := 1922) dL_law_1918 (by decide) ?_
                                                              obtain ⟨y86, hh86, h⟩ := obd_some h
                                                              refine h_cVi [.inl (xs (v4 + (1 : Int32)).toNatClampNeg), .inl (xs (v4 + (2 : Int32)).toNatClampNeg), .inl (1 : Int32)] (m_X8_see  hh86) cw_L_198 dL_law_1922 rfl ok_8 (by decide) rfl (Or.inr rfl) rfl ?_
                                                              refine h_istore dL_law_1925 (by decide) rfl ?_
                                                              refine h_aload_n dL_law_1927 rfl ?_
                                                              obtain ⟨y87, hh87, h⟩ := obd_some h
                                                              refine h_cVi [] (m_X8_thrown  hh87) cw_L_114 dL_law_1928 rfl ok_8 (by decide) rfl (Or.inr rfl) rfl ?_
                                                              refine h_iload dL_law_1931 rfl ?_
                                                              refine h_icmp_eq (tgt := 1938) dL_law_1933 (by decide) (fun q126 => ?_) (fun q126 => ?_)
                                                              · rw [if_pos q126] at h
                                                                refine h_iload dL_law_1938 rfl ?_
                                                                refine h_if_ne (tgt := 1955) dL_law_1940 (by decide) (fun q127 => ?_) (fun q127 => ?_)
                                                                · rw [if_neg q127] at h
                                                                  refine h_goto (tgt := 2211) dL_law_1955 (by decide) ?_
                                                                  refine h_iinc (6 : Int32) dL_law_2211 rfl k_iinc_6 (by decide) rfl ?_
                                                                  refine h_goto (tgt := 23) dL_law_2214 (by decide) ?_
                                                                  exact h_mask [true, true, true, true, true, false, false] (H23 _ _ _ _ _ _ h)
                                                                · rw [if_pos q127] at h
                                                                  refine h_aload_n dL_law_1943 rfl ?_
                                                                  refine h_iconst (0 : Int32) dL_law_1944 k_iconst_0 ?_
                                                                  refine h_lald0 dL_law_1945 ?_
                                                                  refine h_iload dL_law_1946 rfl ?_
                                                                  refine h_i2l dL_law_1948 ?_
                                                                  refine h_lcmp dL_law_1949 ?_
                                                                  refine h_if_eq (tgt := 1955) dL_law_1950 (by decide) (fun q128 => ?_) (fun q128 => ?_)
                                                                  · rw [if_pos q128] at h
                                                                    refine h_goto (tgt := 2211) dL_law_1955 (by decide) ?_
                                                                    refine h_iinc (6 : Int32) dL_law_2211 rfl k_iinc_6 (by decide) rfl ?_
                                                                    refine h_goto (tgt := 23) dL_law_2214 (by decide) ?_
                                                                    exact h_mask [true, true, true, true, true, false, false] (H23 _ _ _ _ _ _ h)
                                                                  · rw [if_neg q128] at h
                                                                    refine h_iconst (0 : Int32) dL_law_1953 k_iconst_0 ?_
                                                                    cases h
                                                                    exact h_zret dL_law_1954 rfl rfl E
                                                              · rw [if_neg q126] at h
                                                                refine h_iconst (0 : Int32) dL_law_1936 k_iconst_0 ?_
                                                                cases h
                                                                exact h_zret dL_law_1937 rfl rfl E
                                                          · rw [if_neg q121] at h
                                                            refine h_iconst (1 : Int32) dL_law_1884 k_iconst_1 ?_
                                                            refine h_goto (tgt := 1889) dL_law_1885 (by decide) ?_
                                                            refine h_aload_n dL_law_1889 rfl ?_
                                                            obtain ⟨y88, hh88, h⟩ := obd_some h
                                                            refine h_callSW [.inr (.inr (7, 0, 0)), .inl (xs (v4 + (1 : Int32)).toNatClampNeg), .inl (xs (v4 + (2 : Int32)).toNatClampNeg), .inl (1 : Int32), .inr (.inr (86, 0, 0))] (m_L_see hh88) cx_L_195 dL_law_1890 rfl (by decide) rfl (Or.inl rfl) rfl ?_
                                                            refine h_istore dL_law_1893 (by decide) rfl ?_
                                                            refine h_aload_n dL_law_1895 rfl ?_
                                                            refine h_aload_n dL_law_1896 rfl ?_
                                                            refine h_iload dL_law_1897 rfl ?_
                                                            refine h_iconst (1 : Int32) dL_law_1899 k_iconst_1 ?_
                                                            refine h_iadd dL_law_1900 ?_
                                                            refine h_scr hscr dL_law_1901 g52 ?_
                                                            refine h_aload_n dL_law_1902 rfl ?_
                                                            refine h_iload dL_law_1903 rfl ?_
                                                            refine h_iconst (2 : Int32) dL_law_1905 k_iconst_2 ?_
                                                            refine h_iadd dL_law_1906 ?_
                                                            refine h_scr hscr dL_law_1907 g53 ?_
                                                            refine h_aload_n dL_law_1908 rfl ?_
                                                            refine h_iload dL_law_1909 rfl ?_
                                                            refine h_iconst (3 : Int32) dL_law_1911 k_iconst_3 ?_
                                                            refine h_iadd dL_law_1912 ?_
                                                            refine h_scr hscr dL_law_1913 g54 ?_
                                                            refine h_if_eq (tgt := 1921) dL_law_1914 (by decide) (fun q129 => ?_) (fun q129 => ?_)
                                                            · rw [if_pos q129] at h
                                                              refine h_iconst (0 : Int32) dL_law_1921 k_iconst_0 ?_
                                                              obtain ⟨y89, hh89, h⟩ := obd_some h
                                                              refine h_cVi [.inl (xs (v4 + (1 : Int32)).toNatClampNeg), .inl (xs (v4 + (2 : Int32)).toNatClampNeg), .inl (0 : Int32)] (m_X8_see  hh89) cw_L_198 dL_law_1922 rfl ok_8 (by decide) rfl (Or.inr rfl) rfl ?_
                                                              refine h_istore dL_law_1925 (by decide) rfl ?_
                                                              refine h_aload_n dL_law_1927 rfl ?_
                                                              obtain ⟨y90, hh90, h⟩ := obd_some h
                                                              refine h_cVi [] (m_X8_thrown  hh90) cw_L_114 dL_law_1928 rfl ok_8 (by decide) rfl (Or.inr rfl) rfl ?_
                                                              refine h_iload dL_law_1931 rfl ?_
                                                              refine h_icmp_eq (tgt := 1938) dL_law_1933 (by decide) (fun q130 => ?_) (fun q130 => ?_)
                                                              · rw [if_pos q130] at h
                                                                refine h_iload dL_law_1938 rfl ?_
                                                                refine h_if_ne (tgt := 1955) dL_law_1940 (by decide) (fun q131 => ?_) (fun q131 => ?_)
                                                                · rw [if_neg q131] at h
                                                                  refine h_goto (tgt := 2211) dL_law_1955 (by decide) ?_
                                                                  refine h_iinc (6 : Int32) dL_law_2211 rfl k_iinc_6 (by decide) rfl ?_
                                                                  refine h_goto (tgt := 23) dL_law_2214 (by decide) ?_
                                                                  exact h_mask [true, true, true, true, true, false, false] (H23 _ _ _ _ _ _ h)
                                                                · rw [if_pos q131] at h
                                                                  refine h_aload_n dL_law_1943 rfl ?_
                                                                  refine h_iconst (0 : Int32) dL_law_1944 k_iconst_0 ?_
                                                                  refine h_lald0 dL_law_1945 ?_
                                                                  refine h_iload dL_law_1946 rfl ?_
                                                                  refine h_i2l dL_law_1948 ?_
                                                                  refine h_lcmp dL_law_1949 ?_
                                                                  refine h_if_eq (tgt := 1955) dL_law_1950 (by decide) (fun q132 => ?_) (fun q132 => ?_)
                                                                  · rw [if_pos q132] at h
                                                                    refine h_goto (tgt := 2211) dL_law_1955 (by decide) ?_
                                                                    refine h_iinc (6 : Int32) dL_law_2211 rfl k_iinc_6 (by decide) rfl ?_
                                                                    refine h_goto (tgt := 23) dL_law_2214 (by decide) ?_
                                                                    exact h_mask [true, true, true, true, true, false, false] (H23 _ _ _ _ _ _ h)
                                                                  · rw [if_neg q132] at h
                                                                    refine h_iconst (0 : Int32) dL_law_1953 k_iconst_0 ?_
                                                                    cases h
                                                                    exact h_zret dL_law_1954 rfl rfl E
                                                              · rw [if_neg q130] at h
                                                                refine h_iconst (0 : Int32) dL_law_1936 k_iconst_0 ?_
                                                                cases h
                                                                exact h_zret dL_law_1937 rfl rfl E
                                                            · rw [if_neg q129] at h
                                                              refine h_iconst (1 : Int32) dL_law_1917 k_iconst_1 ?_
                                                              refine h_goto (tgt := 1922) dL_law_1918 (by decide) ?_
                                                              obtain ⟨y91, hh91, h⟩ := obd_some h
                                                              refine h_cVi [.inl (xs (v4 + (1 : Int32)).toNatClampNeg), .inl (xs (v4 + (2 : Int32)).toNatClampNeg), .inl (1 : Int32)] (m_X8_see  hh91) cw_L_198 dL_law_1922 rfl ok_8 (by decide) rfl (Or.inr rfl) rfl ?_
                                                              refine h_istore dL_law_1925 (by decide) rfl ?_
                                                              refine h_aload_n dL_law_1927 rfl ?_
                                                              obtain ⟨y92, hh92, h⟩ := obd_some h
                                                              refine h_cVi [] (m_X8_thrown  hh92) cw_L_114 dL_law_1928 rfl ok_8 (by decide) rfl (Or.inr rfl) rfl ?_
                                                              refine h_iload dL_law_1931 rfl ?_
                                                              refine h_icmp_eq (tgt := 1938) dL_law_1933 (by decide) (fun q133 => ?_) (fun q133 => ?_)
                                                              · rw [if_pos q133] at h
                                                                refine h_iload dL_law_1938 rfl ?_
                                                                refine h_if_ne (tgt := 1955) dL_law_1940 (by decide) (fun q134 => ?_) (fun q134 => ?_)
                                                                · rw [if_neg q134] at h
                                                                  refine h_goto (tgt := 2211) dL_law_1955 (by decide) ?_
                                                                  refine h_iinc (6 : Int32) dL_law_2211 rfl k_iinc_6 (by decide) rfl ?_
                                                                  refine h_goto (tgt := 23) dL_law_2214 (by decide) ?_
                                                                  exact h_mask [true, true, true, true, true, false, false] (H23 _ _ _ _ _ _ h)
                                                                · rw [if_pos q134] at h
                                                                  refine h_aload_n dL_law_1943 rfl ?_
                                                                  refine h_iconst (0 : Int32) dL_law_1944 k_iconst_0 ?_
                                                                  refine h_lald0 dL_law_1945 ?_
                                                                  refine h_iload dL_law_1946 rfl ?_
                                                                  refine h_i2l dL_law_1948 ?_
                                                                  refine h_lcmp dL_law_1949 ?_
                                                                  refine h_if_eq (tgt := 1955) dL_law_1950 (by decide) (fun q135 => ?_) (fun q135 => ?_)
                                                                  · rw [if_pos q135] at h
                                                                    refine h_goto (tgt := 2211) dL_law_1955 (by decide) ?_
                                                                    refine h_iinc (6 : Int32) dL_law_2211 rfl k_iinc_6 (by decide) rfl ?_
                                                                    refine h_goto (tgt := 23) dL_law_2214 (by decide) ?_
                                                                    exact h_mask [true, true, true, true, true, false, false] (H23 _ _ _ _ _ _ h)
                                                                  · rw [if_neg q135] at h
                                                                    refine h_iconst (0 : Int32) dL_law_1953 k_iconst_0 ?_
                                                                    cases h
                                                                    exact h_zret dL_law_1954 rfl rfl E
                                                              · rw [if_neg q133] at h
                                                                refine h_iconst (0 : Int32) dL_law_1936 k_iconst_0 ?_
                                                                cases h
                                                                exact h_zret dL_law_1937 rfl rfl E
                                                        · rw [if_neg q120] at h
                                                          by_cases q136 : ((xs v4.toNatClampNeg) &&& (63 : Int32)) = (27 : Int32)
                                                          · rw [if_pos q136] at h
                                                            refine h_tswIn (tgt := 1958) 27 dL_law_40 (by rw [q136]; decide) (by decide) rfl (by decide) ?_
                                                            refine h_aload_n dL_law_1958 rfl ?_
                                                            obtain ⟨y93, hh93, h⟩ := obd_some h
                                                            refine h_cVi [] (m_X7_forget  hh93) cw_L_199 dL_law_1959 rfl ok_7 (by decide) rfl (Or.inr rfl) rfl ?_
                                                            refine h_aload_n dL_law_1962 rfl ?_
                                                            obtain ⟨y94, hh94, h⟩ := obd_some h
                                                            refine h_cVi [] (m_X8_forget  hh94) cw_L_202 dL_law_1963 rfl ok_8 (by decide) rfl (Or.inr rfl) rfl ?_
                                                            refine h_icmp_eq (tgt := 2211) dL_law_1966 (by decide) (fun q137 => ?_) (fun q137 => ?_)
                                                            · rw [if_pos q137] at h
                                                              refine h_iinc (6 : Int32) dL_law_2211 rfl k_iinc_6 (by decide) rfl ?_
                                                              refine h_goto (tgt := 23) dL_law_2214 (by decide) ?_
                                                              exact (H23 _ _ _ _ _ _ h)
                                                            · rw [if_neg q137] at h
                                                              refine h_iconst (0 : Int32) dL_law_1969 k_iconst_0 ?_
                                                              cases h
                                                              exact h_zret dL_law_1970 rfl rfl E
                                                          · rw [if_neg q136] at h
                                                            by_cases q138 : ((xs v4.toNatClampNeg) &&& (63 : Int32)) = (28 : Int32)
                                                            · rw [if_pos q138] at h
                                                              refine h_tswIn (tgt := 1971) 28 dL_law_40 (by rw [q138]; decide) (by decide) rfl (by decide) ?_
                                                              refine h_aload_n dL_law_1971 rfl ?_
                                                              refine h_aload_n dL_law_1972 rfl ?_
                                                              refine h_iload dL_law_1973 rfl ?_
                                                              refine h_iconst (1 : Int32) dL_law_1975 k_iconst_1 ?_
                                                              refine h_iadd dL_law_1976 ?_
                                                              obtain ⟨g55, h⟩ := gd_some h
                                                              refine h_scr hscr dL_law_1977 g55 ?_
                                                              refine h_aload_n dL_law_1978 rfl ?_
                                                              refine h_iload dL_law_1979 rfl ?_
                                                              refine h_iconst (2 : Int32) dL_law_1981 k_iconst_2 ?_
                                                              refine h_iadd dL_law_1982 ?_
                                                              obtain ⟨g56, h⟩ := gd_some h
                                                              refine h_scr hscr dL_law_1983 g56 ?_
                                                              refine h_aload_n dL_law_1984 rfl ?_
                                                              obtain ⟨y95, hh95, h⟩ := obd_some h
                                                              refine h_callSW [.inr (.inr (7, 0, 0)), .inl (xs (v4 + (1 : Int32)).toNatClampNeg), .inl (xs (v4 + (2 : Int32)).toNatClampNeg), .inr (.inr (86, 0, 0))] (m_L_sent hh95) cx_L_203 dL_law_1985 rfl (by decide) rfl (Or.inl rfl) rfl ?_
                                                              refine h_istore dL_law_1988 (by decide) rfl ?_
                                                              refine h_aload_n dL_law_1990 rfl ?_
                                                              refine h_aload_n dL_law_1991 rfl ?_
                                                              refine h_iload dL_law_1992 rfl ?_
                                                              refine h_iconst (1 : Int32) dL_law_1994 k_iconst_1 ?_
                                                              refine h_iadd dL_law_1995 ?_
                                                              refine h_scr hscr dL_law_1996 g55 ?_
                                                              refine h_aload_n dL_law_1997 rfl ?_
                                                              refine h_iload dL_law_1998 rfl ?_
                                                              refine h_iconst (2 : Int32) dL_law_2000 k_iconst_2 ?_
                                                              refine h_iadd dL_law_2001 ?_
                                                              refine h_scr hscr dL_law_2002 g56 ?_
                                                              obtain ⟨y96, hh96, h⟩ := obd_some h
                                                              refine h_cVi [.inl (xs (v4 + (1 : Int32)).toNatClampNeg), .inl (xs (v4 + (2 : Int32)).toNatClampNeg)] (m_X8_sent  hh96) cw_L_205 dL_law_2003 rfl ok_8 (by decide) rfl (Or.inr rfl) rfl ?_
                                                              refine h_istore dL_law_2006 (by decide) rfl ?_
                                                              refine h_aload_n dL_law_2008 rfl ?_
                                                              obtain ⟨y97, hh97, h⟩ := obd_some h
                                                              refine h_cVi [] (m_X8_thrown  hh97) cw_L_114 dL_law_2009 rfl ok_8 (by decide) rfl (Or.inr rfl) rfl ?_
                                                              refine h_iload dL_law_2012 rfl ?_
                                                              refine h_icmp_eq (tgt := 2019) dL_law_2014 (by decide) (fun q139 => ?_) (fun q139 => ?_)
                                                              · rw [if_pos q139] at h
                                                                refine h_iload dL_law_2019 rfl ?_
                                                                refine h_if_ne (tgt := 2036) dL_law_2021 (by decide) (fun q140 => ?_) (fun q140 => ?_)
                                                                · rw [if_neg q140] at h
                                                                  refine h_goto (tgt := 2211) dL_law_2036 (by decide) ?_
                                                                  refine h_iinc (6 : Int32) dL_law_2211 rfl k_iinc_6 (by decide) rfl ?_
                                                                  refine h_goto (tgt := 23) dL_law_2214 (by decide) ?_
                                                                  exact h_mask [true, true, true, true, true, false, false] (H23 _ _ _ _ _ _ h)
                                                                · rw [if_pos q140] at h
                                                                  refine h_aload_n dL_law_2024 rfl ?_
                                                                  refine h_iconst (0 : Int32) dL_law_2025 k_iconst_0 ?_
                                                                  refine h_lald0 dL_law_2026 ?_
                                                                  refine h_iload dL_law_2027 rfl ?_
                                                                  refine h_i2l dL_law_2029 ?_
                                                                  refine h_lcmp dL_law_2030 ?_
                                                                  refine h_if_eq (tgt := 2036) dL_law_2031 (by decide) (fun q141 => ?_) (fun q141 => ?_)
                                                                  · rw [if_pos q141] at h
                                                                    refine h_goto (tgt := 2211) dL_law_2036 (by decide) ?_
                                                                    refine h_iinc (6 : Int32) dL_law_2211 rfl k_iinc_6 (by decide) rfl ?_
                                                                    refine h_goto (tgt := 23) dL_law_2214 (by decide) ?_
                                                                    exact h_mask [true, true, true, true, true, false, false] (H23 _ _ _ _ _ _ h)
                                                                  · rw [if_neg q141] at h
                                                                    refine h_iconst (0 : Int32) dL_law_2034 k_iconst_0 ?_
                                                                    cases h
                                                                    exact h_zret dL_law_2035 rfl rfl E
                                                              · rw [if_neg q139] at h
                                                                refine h_iconst (0 : Int32) dL_law_2017 k_iconst_0 ?_
                                                                cases h
                                                                exact h_zret dL_law_2018 rfl rfl E
                                                            · rw [if_neg q138] at h
                                                              by_cases q142 : ((xs v4.toNatClampNeg) &&& (63 : Int32)) = (29 : Int32)
                                                              · rw [if_pos q142] at h
                                                                refine h_tswIn (tgt := 2039) 29 dL_law_40 (by rw [q142]; decide) (by decide) rfl (by decide) ?_
                                                                refine h_aload_n dL_law_2039 rfl ?_
                                                                refine h_aload_n dL_law_2040 rfl ?_
                                                                refine h_iload dL_law_2041 rfl ?_
                                                                refine h_iconst (1 : Int32) dL_law_2043 k_iconst_1 ?_
                                                                refine h_iadd dL_law_2044 ?_
                                                                obtain ⟨g57, h⟩ := gd_some h
                                                                refine h_scr hscr dL_law_2045 g57 ?_
                                                                refine h_aload_n dL_law_2046 rfl ?_
                                                                refine h_iload dL_law_2047 rfl ?_
                                                                refine h_iconst (2 : Int32) dL_law_2049 k_iconst_2 ?_
                                                                refine h_iadd dL_law_2050 ?_
                                                                obtain ⟨g58, h⟩ := gd_some h
                                                                refine h_scr hscr dL_law_2051 g58 ?_
                                                                refine h_aload_n dL_law_2052 rfl ?_
                                                                obtain ⟨y98, hh98, h⟩ := obd_some h
                                                                refine h_callSW [.inr (.inr (7, 0, 0)), .inl (xs (v4 + (1 : Int32)).toNatClampNeg), .inl (xs (v4 + (2 : Int32)).toNatClampNeg), .inr (.inr (86, 0, 0))] (m_L_game hh98) cx_L_206 dL_law_2053 rfl (by decide) rfl (Or.inl rfl) rfl ?_
                                                                refine h_istore dL_law_2056 (by decide) rfl ?_
                                                                refine h_aload_n dL_law_2058 rfl ?_
                                                                refine h_aload_n dL_law_2059 rfl ?_
                                                                refine h_iload dL_law_2060 rfl ?_
                                                                refine h_iconst (1 : Int32) dL_law_2062 k_iconst_1 ?_
                                                                refine h_iadd dL_law_2063 ?_
                                                                refine h_scr hscr dL_law_2064 g57 ?_
                                                                refine h_aload_n dL_law_2065 rfl ?_
                                                                refine h_iload dL_law_2066 rfl ?_
                                                                refine h_iconst (2 : Int32) dL_law_2068 k_iconst_2 ?_
                                                                refine h_iadd dL_law_2069 ?_
                                                                refine h_scr hscr dL_law_2070 g58 ?_
                                                                obtain ⟨y99, hh99, h⟩ := obd_some h
                                                                refine h_cVi [.inl (xs (v4 + (1 : Int32)).toNatClampNeg), .inl (xs (v4 + (2 : Int32)).toNatClampNeg)] (m_X8_game  hh99) cw_L_208 dL_law_2071 rfl ok_8 (by decide) rfl (Or.inr rfl) rfl ?_
                                                                refine h_istore dL_law_2074 (by decide) rfl ?_
                                                                refine h_aload_n dL_law_2076 rfl ?_
                                                                obtain ⟨y100, hh100, h⟩ := obd_some h
                                                                refine h_cVi [] (m_X8_thrown  hh100) cw_L_114 dL_law_2077 rfl ok_8 (by decide) rfl (Or.inr rfl) rfl ?_
                                                                refine h_iload dL_law_2080 rfl ?_
                                                                refine h_icmp_eq (tgt := 2087) dL_law_2082 (by decide) (fun q143 => ?_) (fun q143 => ?_)
                                                                · rw [if_pos q143] at h
                                                                  refine h_iload dL_law_2087 rfl ?_
                                                                  refine h_if_ne (tgt := 2104) dL_law_2089 (by decide) (fun q144 => ?_) (fun q144 => ?_)
                                                                  · rw [if_neg q144] at h
                                                                    refine h_goto (tgt := 2211) dL_law_2104 (by decide) ?_
                                                                    refine h_iinc (6 : Int32) dL_law_2211 rfl k_iinc_6 (by decide) rfl ?_
                                                                    refine h_goto (tgt := 23) dL_law_2214 (by decide) ?_
                                                                    exact h_mask [true, true, true, true, true, false, false] (H23 _ _ _ _ _ _ h)
                                                                  · rw [if_pos q144] at h
                                                                    refine h_aload_n dL_law_2092 rfl ?_
                                                                    refine h_iconst (0 : Int32) dL_law_2093 k_iconst_0 ?_
                                                                    refine h_lald0 dL_law_2094 ?_
                                                                    refine h_iload dL_law_2095 rfl ?_
                                                                    refine h_i2l dL_law_2097 ?_
                                                                    refine h_lcmp dL_law_2098 ?_
                                                                    refine h_if_eq (tgt := 2104) dL_law_2099 (by decide) (fun q145 => ?_) (fun q145 => ?_)
                                                                    · rw [if_pos q145] at h
                                                                      refine h_goto (tgt := 2211) dL_law_2104 (by decide) ?_
                                                                      refine h_iinc (6 : Int32) dL_law_2211 rfl k_iinc_6 (by decide) rfl ?_
                                                                      refine h_goto (tgt := 23) dL_law_2214 (by decide) ?_
                                                                      exact h_mask [true, true, true, true, true, false, false] (H23 _ _ _ _ _ _ h)
                                                                    · rw [if_neg q145] at h
                                                                      refine h_iconst (0 : Int32) dL_law_2102 k_iconst_0 ?_
                                                                      cases h
                                                                      exact h_zret dL_law_2103 rfl rfl E
                                                                · rw [if_neg q143] at h
                                                                  refine h_iconst (0 : Int32) dL_law_2085 k_iconst_0 ?_
                                                                  cases h
                                                                  exact h_zret dL_law_2086 rfl rfl E
                                                              · rw [if_neg q142] at h
                                                                by_cases q146 : ((xs v4.toNatClampNeg) &&& (63 : Int32)) = (30 : Int32)
                                                                · rw [if_pos q146] at h
                                                                  refine h_tswIn (tgt := 2107) 30 dL_law_40 (by rw [q146]; decide) (by decide) rfl (by decide) ?_
                                                                  refine h_aload_n dL_law_2107 rfl ?_
                                                                  refine h_aload_n dL_law_2108 rfl ?_
                                                                  refine h_iload dL_law_2109 rfl ?_
                                                                  refine h_iconst (1 : Int32) dL_law_2111 k_iconst_1 ?_
                                                                  refine h_iadd dL_law_2112 ?_
                                                                  obtain ⟨g59, h⟩ := gd_some h
                                                                  refine h_scr hscr dL_law_2113 g59 ?_
                                                                  refine h_aload_n dL_law_2114 rfl ?_
                                                                  refine h_iload dL_law_2115 rfl ?_
                                                                  refine h_iconst (2 : Int32) dL_law_2117 k_iconst_2 ?_
                                                                  refine h_iadd dL_law_2118 ?_
                                                                  obtain ⟨g60, h⟩ := gd_some h
                                                                  refine h_scr hscr dL_law_2119 g60 ?_
                                                                  refine h_aload_n dL_law_2120 rfl ?_
                                                                  refine h_iload dL_law_2121 rfl ?_
                                                                  refine h_iconst (3 : Int32) dL_law_2123 k_iconst_3 ?_
                                                                  refine h_iadd dL_law_2124 ?_
                                                                  obtain ⟨g61, h⟩ := gd_some h
                                                                  refine h_scr hscr dL_law_2125 g61 ?_
                                                                  refine h_aload_n dL_law_2126 rfl ?_
                                                                  obtain ⟨y101, hh101, h⟩ := obd_some h
                                                                  refine h_callSW [.inr (.inr (7, 0, 0)), .inl (xs (v4 + (1 : Int32)).toNatClampNeg), .inl (xs (v4 + (2 : Int32)).toNatClampNeg), .inl (xs (v4 + (3 : Int32)).toNatClampNeg), .inr (.inr (86, 0, 0))] (m_L_season hh101) cx_L_209 dL_law_2127 rfl (by decide) rfl (Or.inl rfl) rfl ?_
                                                                  refine h_istore dL_law_2130 (by decide) rfl ?_
                                                                  refine h_aload_n dL_law_2132 rfl ?_
                                                                  refine h_aload_n dL_law_2133 rfl ?_
                                                                  refine h_iload dL_law_2134 rfl ?_
                                                                  refine h_iconst (1 : Int32) dL_law_2136 k_iconst_1 ?_
                                                                  refine h_iadd dL_law_2137 ?_
                                                                  refine h_scr hscr dL_law_2138 g59 ?_
                                                                  refine h_aload_n dL_law_2139 rfl ?_
                                                                  refine h_iload dL_law_2140 rfl ?_
                                                                  refine h_iconst (2 : Int32) dL_law_2142 k_iconst_2 ?_
                                                                  refine h_iadd dL_law_2143 ?_
                                                                  refine h_scr hscr dL_law_2144 g60 ?_
                                                                  refine h_aload_n dL_law_2145 rfl ?_
                                                                  refine h_iload dL_law_2146 rfl ?_
                                                                  refine h_iconst (3 : Int32) dL_law_2148 k_iconst_3 ?_
                                                                  refine h_iadd dL_law_2149 ?_
                                                                  refine h_scr hscr dL_law_2150 g61 ?_
                                                                  obtain ⟨y102, hh102, h⟩ := obd_some h
                                                                  refine h_cVi [.inl (xs (v4 + (1 : Int32)).toNatClampNeg), .inl (xs (v4 + (2 : Int32)).toNatClampNeg), .inl (xs (v4 + (3 : Int32)).toNatClampNeg)] (m_X8_season  hh102) cw_L_211 dL_law_2151 rfl ok_8 (by decide) rfl (Or.inr rfl) rfl ?_
                                                                  refine h_istore dL_law_2154 (by decide) rfl ?_
                                                                  refine h_aload_n dL_law_2156 rfl ?_
                                                                  obtain ⟨y103, hh103, h⟩ := obd_some h
                                                                  refine h_cVi [] (m_X8_thrown  hh103) cw_L_114 dL_law_2157 rfl ok_8 (by decide) rfl (Or.inr rfl) rfl ?_
                                                                  refine h_iload dL_law_2160 rfl ?_
                                                                  refine h_icmp_eq (tgt := 2167) dL_law_2162 (by decide) (fun q147 => ?_) (fun q147 => ?_)
                                                                  · rw [if_pos q147] at h
                                                                    refine h_iload dL_law_2167 rfl ?_
                                                                    refine h_if_ne (tgt := 2184) dL_law_2169 (by decide) (fun q148 => ?_) (fun q148 => ?_)
                                                                    · rw [if_neg q148] at h
                                                                      refine h_goto (tgt := 2211) dL_law_2184 (by decide) ?_
                                                                      refine h_iinc (6 : Int32) dL_law_2211 rfl k_iinc_6 (by decide) rfl ?_
                                                                      refine h_goto (tgt := 23) dL_law_2214 (by decide) ?_
                                                                      exact h_mask [true, true, true, true, true, false, false] (H23 _ _ _ _ _ _ h)
                                                                    · rw [if_pos q148] at h
                                                                      refine h_aload_n dL_law_2172 rfl ?_
                                                                      refine h_iconst (0 : Int32) dL_law_2173 k_iconst_0 ?_
                                                                      refine h_lald0 dL_law_2174 ?_
                                                                      refine h_iload dL_law_2175 rfl ?_
                                                                      refine h_i2l dL_law_2177 ?_
                                                                      refine h_lcmp dL_law_2178 ?_
                                                                      refine h_if_eq (tgt := 2184) dL_law_2179 (by decide) (fun q149 => ?_) (fun q149 => ?_)
                                                                      · rw [if_pos q149] at h
                                                                        refine h_goto (tgt := 2211) dL_law_2184 (by decide) ?_
                                                                        refine h_iinc (6 : Int32) dL_law_2211 rfl k_iinc_6 (by decide) rfl ?_
                                                                        refine h_goto (tgt := 23) dL_law_2214 (by decide) ?_
                                                                        exact h_mask [true, true, true, true, true, false, false] (H23 _ _ _ _ _ _ h)
                                                                      · rw [if_neg q149] at h
                                                                        refine h_iconst (0 : Int32) dL_law_2182 k_iconst_0 ?_
                                                                        cases h
                                                                        exact h_zret dL_law_2183 rfl rfl E
                                                                  · rw [if_neg q147] at h
                                                                    refine h_iconst (0 : Int32) dL_law_2165 k_iconst_0 ?_
                                                                    cases h
                                                                    exact h_zret dL_law_2166 rfl rfl E
                                                                · rw [if_neg q146] at h
                                                                  by_cases q150 : ((xs v4.toNatClampNeg) &&& (63 : Int32)) = (31 : Int32)
                                                                  · rw [if_pos q150] at h
                                                                    refine h_tswIn (tgt := 2187) 31 dL_law_40 (by rw [q150]; decide) (by decide) rfl (by decide) ?_
                                                                    refine h_aload_n dL_law_2187 rfl ?_
                                                                    obtain ⟨y104, hh104, h⟩ := obd_some h
                                                                    refine h_cVv [] (m_X7_image  hh104) cw_L_212 dL_law_2188 rfl ok_7 (by decide) rfl (Or.inr rfl) rfl ?_
                                                                    refine h_aload_n dL_law_2191 rfl ?_
                                                                    obtain ⟨y105, hh105, h⟩ := obd_some h
                                                                    refine h_cVv [] (m_X8_image  hh105) cw_L_215 dL_law_2192 rfl ok_8 (by decide) rfl (Or.inr rfl) rfl ?_
                                                                    refine h_goto (tgt := 2211) dL_law_2195 (by decide) ?_
                                                                    refine h_iinc (6 : Int32) dL_law_2211 rfl k_iinc_6 (by decide) rfl ?_
                                                                    refine h_goto (tgt := 23) dL_law_2214 (by decide) ?_
                                                                    exact (H23 _ _ _ _ _ _ h)
                                                                  · rw [if_neg q150] at h
                                                                    by_cases q151 : ((xs v4.toNatClampNeg) &&& (63 : Int32)) = (32 : Int32)
                                                                    · rw [if_pos q151] at h
                                                                      refine h_tswIn (tgt := 2198) 32 dL_law_40 (by rw [q151]; decide) (by decide) rfl (by decide) ?_
                                                                      refine h_aload_n dL_law_2198 rfl ?_
                                                                      obtain ⟨y106, hh106, h⟩ := obd_some h
                                                                      refine h_cVi [] (m_X7_restore  hh106) cw_L_216 dL_law_2199 rfl ok_7 (by decide) rfl (Or.inr rfl) rfl ?_
                                                                      refine h_aload_n dL_law_2202 rfl ?_
                                                                      obtain ⟨y107, hh107, h⟩ := obd_some h
                                                                      refine h_cVi [] (m_X8_restore  hh107) cw_L_220 dL_law_2203 rfl ok_8 (by decide) rfl (Or.inr rfl) rfl ?_
                                                                      refine h_icmp_eq (tgt := 2211) dL_law_2206 (by decide) (fun q152 => ?_) (fun q152 => ?_)
                                                                      · rw [if_pos q152] at h
                                                                        refine h_iinc (6 : Int32) dL_law_2211 rfl k_iinc_6 (by decide) rfl ?_
                                                                        refine h_goto (tgt := 23) dL_law_2214 (by decide) ?_
                                                                        exact (H23 _ _ _ _ _ _ h)
                                                                      · rw [if_neg q152] at h
                                                                        refine h_iconst (0 : Int32) dL_law_2209 k_iconst_0 ?_
                                                                        cases h
                                                                        exact h_zret dL_law_2210 rfl rfl E
                                                                    · rw [if_neg q151] at h
                                                                      refine h_tswOut (tgt := 2211) dL_law_40 ?_ (by decide) ?_
                                                                      · have n0 : ((xs v4.toNatClampNeg) &&& (63 : Int32)).toInt ≠ 0 := fun e => q2 (Int32.toInt_inj.mp (e.trans (by decide)))
                                                                        have n1 : ((xs v4.toNatClampNeg) &&& (63 : Int32)).toInt ≠ 1 := fun e => q4 (Int32.toInt_inj.mp (e.trans (by decide)))
                                                                        have n2 : ((xs v4.toNatClampNeg) &&& (63 : Int32)).toInt ≠ 2 := fun e => q8 (Int32.toInt_inj.mp (e.trans (by decide)))
                                                                        have n3 : ((xs v4.toNatClampNeg) &&& (63 : Int32)).toInt ≠ 3 := fun e => q10 (Int32.toInt_inj.mp (e.trans (by decide)))
                                                                        have n4 : ((xs v4.toNatClampNeg) &&& (63 : Int32)).toInt ≠ 4 := fun e => q14 (Int32.toInt_inj.mp (e.trans (by decide)))
                                                                        have n5 : ((xs v4.toNatClampNeg) &&& (63 : Int32)).toInt ≠ 5 := fun e => q18 (Int32.toInt_inj.mp (e.trans (by decide)))
                                                                        have n6 : ((xs v4.toNatClampNeg) &&& (63 : Int32)).toInt ≠ 6 := fun e => q22 (Int32.toInt_inj.mp (e.trans (by decide)))
                                                                        have n7 : ((xs v4.toNatClampNeg) &&& (63 : Int32)).toInt ≠ 7 := fun e => q26 (Int32.toInt_inj.mp (e.trans (by decide)))
                                                                        have n8 : ((xs v4.toNatClampNeg) &&& (63 : Int32)).toInt ≠ 8 := fun e => q30 (Int32.toInt_inj.mp (e.trans (by decide)))
                                                                        have n9 : ((xs v4.toNatClampNeg) &&& (63 : Int32)).toInt ≠ 9 := fun e => q34 (Int32.toInt_inj.mp (e.trans (by decide)))
                                                                        have n10 : ((xs v4.toNatClampNeg) &&& (63 : Int32)).toInt ≠ 10 := fun e => q38 (Int32.toInt_inj.mp (e.trans (by decide)))
                                                                        have n11 : ((xs v4.toNatClampNeg) &&& (63 : Int32)).toInt ≠ 11 := fun e => q42 (Int32.toInt_inj.mp (e.trans (by decide)))
                                                                        have n12 : ((xs v4.toNatClampNeg) &&& (63 : Int32)).toInt ≠ 12 := fun e => q46 (Int32.toInt_inj.mp (e.trans (by decide)))
                                                                        have n13 : ((xs v4.toNatClampNeg) &&& (63 : Int32)).toInt ≠ 13 := fun e => q50 (Int32.toInt_inj.mp (e.trans (by decide)))
                                                                        have n14 : ((xs v4.toNatClampNeg) &&& (63 : Int32)).toInt ≠ 14 := fun e => q54 (Int32.toInt_inj.mp (e.trans (by decide)))
                                                                        have n15 : ((xs v4.toNatClampNeg) &&& (63 : Int32)).toInt ≠ 15 := fun e => q78 (Int32.toInt_inj.mp (e.trans (by decide)))
                                                                        have n16 : ((xs v4.toNatClampNeg) &&& (63 : Int32)).toInt ≠ 16 := fun e => q82 (Int32.toInt_inj.mp (e.trans (by decide)))
                                                                        have n17 : ((xs v4.toNatClampNeg) &&& (63 : Int32)).toInt ≠ 17 := fun e => q86 (Int32.toInt_inj.mp (e.trans (by decide)))
                                                                        have n18 : ((xs v4.toNatClampNeg) &&& (63 : Int32)).toInt ≠ 18 := fun e => q90 (Int32.toInt_inj.mp (e.trans (by decide)))
                                                                        have n19 : ((xs v4.toNatClampNeg) &&& (63 : Int32)).toInt ≠ 19 := fun e => q92 (Int32.toInt_inj.mp (e.trans (by decide)))
                                                                        have n20 : ((xs v4.toNatClampNeg) &&& (63 : Int32)).toInt ≠ 20 := fun e => q96 (Int32.toInt_inj.mp (e.trans (by decide)))
                                                                        have n21 : ((xs v4.toNatClampNeg) &&& (63 : Int32)).toInt ≠ 21 := fun e => q100 (Int32.toInt_inj.mp (e.trans (by decide)))
                                                                        have n22 : ((xs v4.toNatClampNeg) &&& (63 : Int32)).toInt ≠ 22 := fun e => q104 (Int32.toInt_inj.mp (e.trans (by decide)))
                                                                        have n23 : ((xs v4.toNatClampNeg) &&& (63 : Int32)).toInt ≠ 23 := fun e => q108 (Int32.toInt_inj.mp (e.trans (by decide)))
                                                                        have n24 : ((xs v4.toNatClampNeg) &&& (63 : Int32)).toInt ≠ 24 := fun e => q112 (Int32.toInt_inj.mp (e.trans (by decide)))
                                                                        have n25 : ((xs v4.toNatClampNeg) &&& (63 : Int32)).toInt ≠ 25 := fun e => q116 (Int32.toInt_inj.mp (e.trans (by decide)))
                                                                        have n26 : ((xs v4.toNatClampNeg) &&& (63 : Int32)).toInt ≠ 26 := fun e => q120 (Int32.toInt_inj.mp (e.trans (by decide)))
                                                                        have n27 : ((xs v4.toNatClampNeg) &&& (63 : Int32)).toInt ≠ 27 := fun e => q136 (Int32.toInt_inj.mp (e.trans (by decide)))
                                                                        have n28 : ((xs v4.toNatClampNeg) &&& (63 : Int32)).toInt ≠ 28 := fun e => q138 (Int32.toInt_inj.mp (e.trans (by decide)))
                                                                        have n29 : ((xs v4.toNatClampNeg) &&& (63 : Int32)).toInt ≠ 29 := fun e => q142 (Int32.toInt_inj.mp (e.trans (by decide)))
                                                                        have n30 : ((xs v4.toNatClampNeg) &&& (63 : Int32)).toInt ≠ 30 := fun e => q146 (Int32.toInt_inj.mp (e.trans (by decide)))
                                                                        have n31 : ((xs v4.toNatClampNeg) &&& (63 : Int32)).toInt ≠ 31 := fun e => q150 (Int32.toInt_inj.mp (e.trans (by decide)))
                                                                        have n32 : ((xs v4.toNatClampNeg) &&& (63 : Int32)).toInt ≠ 32 := fun e => q151 (Int32.toInt_inj.mp (e.trans (by decide)))
                                                                        omega
                                                                      · refine h_iinc (6 : Int32) dL_law_2211 rfl k_iinc_6 (by decide) rfl ?_
                                                                        refine h_goto (tgt := 23) dL_law_2214 (by decide) ?_
                                                                        exact (H23 _ _ _ _ _ _ h)
