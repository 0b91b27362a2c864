theorem dJ0_length_8abf5_0 : decode cJ0_length_8abf5 0 = .ok (.aload_n 0, 1) := by decide +kernel
theorem dJ0_length_8abf5_1 : decode cJ0_length_8abf5 1 = .ok (.getfield 9, 3) := by decide +kernel
theorem dJ0_length_8abf5_4 : decode cJ0_length_8abf5 4 = .ok (.arraylength, 1) := by decide +kernel
theorem dJ0_length_8abf5_5 : decode cJ0_length_8abf5 5 = .ok (.aload_n 0, 1) := by decide +kernel
theorem dJ0_length_8abf5_6 : decode cJ0_length_8abf5 6 = .ok (.invokevirtual 335, 3) := by decide +kernel
theorem dJ0_length_8abf5_9 : decode cJ0_length_8abf5 9 = .ok (.ishr, 1) := by decide +kernel
theorem dJ0_length_8abf5_10 : decode cJ0_length_8abf5 10 = .ok (.ireturn, 1) := by decide +kernel
theorem dJ0_coder_7d493_0 : decode cJ0_coder_7d493 0 = .ok (.getstatic 38, 3) := by decide +kernel
theorem dJ0_coder_7d493_3 : decode cJ0_coder_7d493 3 = .ok (.ifCond .eq 10, 3) := by decide +kernel
theorem dJ0_coder_7d493_6 : decode cJ0_coder_7d493 6 = .ok (.aload_n 0, 1) := by decide +kernel
theorem dJ0_coder_7d493_7 : decode cJ0_coder_7d493 7 = .ok (.getfield 15, 3) := by decide +kernel
theorem dJ0_coder_7d493_10 : decode cJ0_coder_7d493 10 = .ok (.goto 4, 3) := by decide +kernel
theorem dJ0_coder_7d493_13 : decode cJ0_coder_7d493 13 = .ok (.iconst 1, 1) := by decide +kernel
theorem dJ0_coder_7d493_14 : decode cJ0_coder_7d493 14 = .ok (.ireturn, 1) := by decide +kernel
theorem dJ0_charAt_5068e_0 : decode cJ0_charAt_5068e 0 = .ok (.aload_n 0, 1) := by decide +kernel
theorem dJ0_charAt_5068e_1 : decode cJ0_charAt_5068e 1 = .ok (.invokevirtual 492, 3) := by decide +kernel
theorem dJ0_charAt_5068e_4 : decode cJ0_charAt_5068e 4 = .ok (.ifCond .eq 12, 3) := by decide +kernel
theorem dJ0_charAt_5068e_7 : decode cJ0_charAt_5068e 7 = .ok (.aload_n 0, 1) := by decide +kernel
theorem dJ0_charAt_5068e_8 : decode cJ0_charAt_5068e 8 = .ok (.getfield 9, 3) := by decide +kernel
theorem dJ0_charAt_5068e_11 : decode cJ0_charAt_5068e 11 = .ok (.iload_n 1, 1) := by decide +kernel
theorem dJ0_charAt_5068e_12 : decode cJ0_charAt_5068e 12 = .ok (.invokestatic 495, 3) := by decide +kernel
theorem dJ0_charAt_5068e_15 : decode cJ0_charAt_5068e 15 = .ok (.ireturn, 1) := by decide +kernel
theorem dJ0_charAt_5068e_16 : decode cJ0_charAt_5068e 16 = .ok (.aload_n 0, 1) := by decide +kernel
theorem dJ0_charAt_5068e_17 : decode cJ0_charAt_5068e 17 = .ok (.getfield 9, 3) := by decide +kernel
theorem dJ0_charAt_5068e_20 : decode cJ0_charAt_5068e 20 = .ok (.iload_n 1, 1) := by decide +kernel
theorem dJ0_charAt_5068e_21 : decode cJ0_charAt_5068e 21 = .ok (.invokestatic 498, 3) := by decide +kernel
theorem dJ0_charAt_5068e_24 : decode cJ0_charAt_5068e 24 = .ok (.ireturn, 1) := by decide +kernel
theorem dJ0_isLatin1_aae02_0 : decode cJ0_isLatin1_aae02 0 = .ok (.getstatic 38, 3) := by decide +kernel
theorem dJ0_isLatin1_aae02_3 : decode cJ0_isLatin1_aae02 3 = .ok (.ifCond .eq 14, 3) := by decide +kernel
theorem dJ0_isLatin1_aae02_6 : decode cJ0_isLatin1_aae02 6 = .ok (.aload_n 0, 1) := by decide +kernel
theorem dJ0_isLatin1_aae02_7 : decode cJ0_isLatin1_aae02 7 = .ok (.getfield 15, 3) := by decide +kernel
theorem dJ0_isLatin1_aae02_10 : decode cJ0_isLatin1_aae02 10 = .ok (.ifCond .ne 7, 3) := by decide +kernel
theorem dJ0_isLatin1_aae02_13 : decode cJ0_isLatin1_aae02 13 = .ok (.iconst 1, 1) := by decide +kernel
theorem dJ0_isLatin1_aae02_14 : decode cJ0_isLatin1_aae02 14 = .ok (.goto 4, 3) := by decide +kernel
theorem dJ0_isLatin1_aae02_17 : decode cJ0_isLatin1_aae02 17 = .ok (.iconst 0, 1) := by decide +kernel
theorem dJ0_isLatin1_aae02_18 : decode cJ0_isLatin1_aae02 18 = .ok (.ireturn, 1) := by decide +kernel
theorem dJ1_charAt_3b067_0 : decode cJ1_charAt_3b067 0 = .ok (.iload_n 1, 1) := by decide +kernel
theorem dJ1_charAt_3b067_1 : decode cJ1_charAt_3b067 1 = .ok (.aload_n 0, 1) := by decide +kernel
theorem dJ1_charAt_3b067_2 : decode cJ1_charAt_3b067 2 = .ok (.arraylength, 1) := by decide +kernel
theorem dJ1_charAt_3b067_3 : decode cJ1_charAt_3b067 3 = .ok (.invokestatic 9, 3) := by decide +kernel
theorem dJ1_charAt_3b067_6 : decode cJ1_charAt_3b067 6 = .ok (.aload_n 0, 1) := by decide +kernel
theorem dJ1_charAt_3b067_7 : decode cJ1_charAt_3b067 7 = .ok (.iload_n 1, 1) := by decide +kernel
theorem dJ1_charAt_3b067_8 : decode cJ1_charAt_3b067 8 = .ok (.baload, 1) := by decide +kernel
theorem dJ1_charAt_3b067_9 : decode cJ1_charAt_3b067 9 = .ok (.sipush 255, 3) := by decide +kernel
theorem dJ1_charAt_3b067_12 : decode cJ1_charAt_3b067 12 = .ok (.iand, 1) := by decide +kernel
theorem dJ1_charAt_3b067_13 : decode cJ1_charAt_3b067 13 = .ok (.i2c, 1) := by decide +kernel
theorem dJ1_charAt_3b067_14 : decode cJ1_charAt_3b067 14 = .ok (.ireturn, 1) := by decide +kernel
theorem dJ0_checkIndex_df160_0 : decode cJ0_checkIndex_df160 0 = .ok (.iload_n 0, 1) := by decide +kernel
theorem dJ0_checkIndex_df160_1 : decode cJ0_checkIndex_df160 1 = .ok (.iload_n 1, 1) := by decide +kernel
theorem dJ0_checkIndex_df160_2 : decode cJ0_checkIndex_df160 2 = .ok (.getstatic 1053, 3) := by decide +kernel
theorem dJ0_checkIndex_df160_5 : decode cJ0_checkIndex_df160 5 = .ok (.invokestatic 1059, 3) := by decide +kernel
theorem dJ0_checkIndex_df160_8 : decode cJ0_checkIndex_df160 8 = .ok (.pop, 1) := by decide +kernel
theorem dJ0_checkIndex_df160_9 : decode cJ0_checkIndex_df160 9 = .ok (.return_, 1) := by decide +kernel
theorem dJ3_checkIndex_8e157_0 : decode cJ3_checkIndex_8e157 0 = .ok (.iload_n 0, 1) := by decide +kernel
theorem dJ3_checkIndex_8e157_1 : decode cJ3_checkIndex_8e157 1 = .ok (.ifCond .lt 8, 3) := by decide +kernel
theorem dJ3_checkIndex_8e157_4 : decode cJ3_checkIndex_8e157 4 = .ok (.iload_n 0, 1) := by decide +kernel
theorem dJ3_checkIndex_8e157_5 : decode cJ3_checkIndex_8e157 5 = .ok (.iload_n 1, 1) := by decide +kernel
theorem dJ3_checkIndex_8e157_6 : decode cJ3_checkIndex_8e157 6 = .ok (.if_icmp .lt 10, 3) := by decide +kernel
theorem dJ3_checkIndex_8e157_9 : decode cJ3_checkIndex_8e157 9 = .ok (.aload_n 2, 1) := by decide +kernel
theorem dJ3_checkIndex_8e157_10 : decode cJ3_checkIndex_8e157 10 = .ok (.iload_n 0, 1) := by decide +kernel
theorem dJ3_checkIndex_8e157_11 : decode cJ3_checkIndex_8e157 11 = .ok (.iload_n 1, 1) := by decide +kernel
theorem dJ3_checkIndex_8e157_12 : decode cJ3_checkIndex_8e157 12 = .ok (.invokestatic 95, 3) := by decide +kernel
theorem dJ3_checkIndex_8e157_15 : decode cJ3_checkIndex_8e157 15 = .ok (.athrow, 1) := by decide +kernel
theorem dJ3_checkIndex_8e157_16 : decode cJ3_checkIndex_8e157 16 = .ok (.iload_n 0, 1) := by decide +kernel
theorem dJ3_checkIndex_8e157_17 : decode cJ3_checkIndex_8e157 17 = .ok (.ireturn, 1) := by decide +kernel
/-! strings -/
def slen (j : Nat) : Int32 := Int32.ofNat (strL.getD j 0)
def schr (j k : Nat) : Int32 := (strB.getD j []).getD k 0 &&& 255
def sbyt (j k : Nat) : Int32 := (strB.getD j []).getD k 0
theorem strL_ok : ∀ j, j < nStr → strL.getD j 0 < 40 := by decide +kernel
theorem wf_J0_9 : Cond.fieldLink RJ0 9 "java/lang/String" "value" "[B" ∈ GW := by decide +kernel
theorem wf_J0_15 : Cond.fieldLink RJ0 15 "java/lang/String" "coder" "B" ∈ GW := by decide +kernel
theorem wf_J0_38 : Cond.fieldLink RJ0 38 "java/lang/String" "COMPACT_STRINGS" "Z" ∈ GW := by decide +kernel
theorem wf_J0_1053 : Cond.fieldLink RJ0 1053 "jdk/internal/util/Preconditions" "SIOOBE_FORMATTER" "Ljava/util/function/BiFunction;" ∈ GW := by decide +kernel
section Strs
variable {X : CX} {cc : ByteArray} {own : String} {mL : Nat} {ret : Option FieldType} {d nm pc : Nat} {lo : List (Option AV)} {st : List AV} {I : Mem} {P : PMem} {O : Nat → Int64} {D : Bool} {n : Nat} {Q : State → Prop}
theorem h_ldcws {q j : Nat} {text : String} (hdg : decode cc pc = .ok (.ldc_w q, 3)) (hs : (own, q, text, j) ∈ strT) (k : Here X cc own mL ret d nm (pc + 3) lo (.inr (.inr (90, j, 0)) :: st) I P O D n Q) : Here X cc own mL ret d nm pc lo st I P O D n Q := by
  obtain ⟨p, l, e, R, s, m, args, below, meth, co, Dg, cy, N0, n0, ad0, sv, hh⟩ := X
  refine ⟨k.1, fun C ad H locs ls hR => ?_⟩
  obtain ⟨hx, hb, hml, hret, hlocks, hown, hts, hK, hN, hfr, hlo, hce, hsl, htr, htb, hE⟩ := id C
  have hz := hE.1 _ hs
  have e1 : ad0 (90, j, 0) = ad (90, j, 0) := (hR.2.2.2.2.2.1 _ (by simp)).symm
  have hz2 : vk_R own q text (ad (90, j, 0)) s := by rw [← e1]; exact hz
  intro T hT X9
  obtain ⟨t, a1, b1⟩ := (k.2 C ad H locs ls hR) T hT X9
  exact ⟨t, X9.ldcStringW hx hown (text := text) (a := ad (90, j, 0)) hz2.1 hz2.2 (g := F0 m pc ls (st.map (cv ad))) rfl (by rw [hb]; exact hdg) t a1, b1⟩
theorem h_sval {j : Nat} (hj : j < nStr) (hdg : decode cc pc = .ok (.getfield 9, 3)) (k : Here X cc RJ0 mL ret d nm (pc + 3) lo (.inr (.inr (91, j, 0)) :: st) I P O D n Q) : Here X cc RJ0 mL ret d nm pc lo (.inr (.inr (90, j, 0)) :: st) I P O D n Q := by
  obtain ⟨p, l, e, R, s, m, args, below, meth, co, Dg, cy, N0, n0, ad0, sv, hh⟩ := X
  refine ⟨k.1, fun C ad H locs ls hR => ?_⟩
  obtain ⟨hx, hb, hml, hret, hlocks, hown, hts, hK, hN, hfr, hlo, hce, hsl, htr, htb, hE⟩ := id C
  have e1 : ad (90, j, 0) = ad0 (90, j, 0) := hR.2.2.2.2.2.1 _ (by simp)
  have e2 : ad (91, j, 0) = ad0 (91, j, 0) := hR.2.2.2.2.2.1 _ (by simp)
  have hk := k.2 C ad H locs ls hR
  simp only [List.map_cons, cv, e1, e2] at hk ⊢
  exact vk_getf hx hb (hE.2.1.1 j hj).2.2.1 hR.2.2.1 hown (hts _ wf_J0_9) (fun x h => h) hdg hk
theorem h_scod {j : Nat} (hj : j < nStr) (hdg : decode cc pc = .ok (.getfield 15, 3)) (k : Here X cc RJ0 mL ret d nm (pc + 3) lo (.inl 0 :: st) I P O D n Q) : Here X cc RJ0 mL ret d nm pc lo (.inr (.inr (90, j, 0)) :: st) I P O D n Q := by
  obtain ⟨p, l, e, R, s, m, args, below, meth, co, Dg, cy, N0, n0, ad0, sv, hh⟩ := X
  refine ⟨k.1, fun C ad H locs ls hR => ?_⟩
  obtain ⟨hx, hb, hml, hret, hlocks, hown, hts, hK, hN, hfr, hlo, hce, hsl, htr, htb, hE⟩ := id C
  have e1 : ad (90, j, 0) = ad0 (90, j, 0) := hR.2.2.2.2.2.1 _ (by simp)
  have hk := k.2 C ad H locs ls hR
  simp only [List.map_cons, cv, e1] at hk ⊢
  exact vk_getf hx hb (hE.2.1.1 j hj).2.1 hR.2.2.1 hown (hts _ wf_J0_15) (fun x h => h) hdg hk
theorem h_scmp (hdg : decode cc pc = .ok (.getstatic 38, 3)) (k : Here X cc RJ0 mL ret d nm (pc + 3) lo (.inl 1 :: st) I P O D n Q) : Here X cc RJ0 mL ret d nm pc lo st I P O D n Q := by
  obtain ⟨p, l, e, R, s, m, args, below, meth, co, Dg, cy, N0, n0, ad0, sv, hh⟩ := X
  refine ⟨k.1, fun C ad H locs ls hR => ?_⟩
  obtain ⟨hx, hb, hml, hret, hlocks, hown, hts, hK, hN, hfr, hlo, hce, hsl, htr, htb, hE⟩ := id C
  exact va_gets hx hb hE.2.2.2.2.1 hR.2.2.1 hown (hts _ wf_J0_38) (fun x h => h) hdg (k.2 C ad H locs ls hR)
theorem h_slenB {j : Nat} (hj : j < nStr) (hdg : decode cc pc = .ok (.arraylength, 1)) (k : Here X cc own mL ret d nm (pc + 1) lo (.inl (slen j) :: st) I P O D n Q) : Here X cc own mL ret d nm pc lo (.inr (.inr (91, j, 0)) :: st) I P O D n Q := by
  obtain ⟨p, l, e, R, s, m, args, below, meth, co, Dg, cy, N0, n0, ad0, sv, hh⟩ := X
  refine ⟨k.1, fun C ad H locs ls hR => ?_⟩
  obtain ⟨hx, hb, hml, hret, hlocks, hown, hts, hK, hN, hfr, hlo, hce, hsl, htr, htb, hE⟩ := id C
  have e2 : ad (91, j, 0) = ad0 (91, j, 0) := hR.2.2.2.2.2.1 _ (by simp)
  have hk := k.2 C ad H locs ls hR
  simp only [List.map_cons, cv, e2] at hk ⊢
  exact va_tlen hx hb (hE.2.1.1 j hj).2.2.2 hR.2.2.1 rfl hdg hk
theorem h_sbald {j : Nat} {i : Int32} (hj : j < nStr) (hi : inb i (strL.getD j 0) = true) (hdg : decode cc pc = .ok (.baload, 1)) (k : Here X cc own mL ret d nm (pc + 1) lo (.inl (sbyt j i.toNatClampNeg) :: st) I P O D n Q) : Here X cc own mL ret d nm pc lo (.inl i :: .inr (.inr (91, j, 0)) :: st) I P O D n Q := by
  obtain ⟨p, l, e, R, s, m, args, below, meth, co, Dg, cy, N0, n0, ad0, sv, hh⟩ := X
  refine ⟨k.1, fun C ad H locs ls hR => ?_⟩
  obtain ⟨hx, hb, hml, hret, hlocks, hown, hts, hK, hN, hfr, hlo, hce, hsl, htr, htb, hE⟩ := id C
  have e2 : ad (91, j, 0) = ad0 (91, j, 0) := hR.2.2.2.2.2.1 _ (by simp)
  have hk := k.2 C ad H locs ls hR
  simp only [List.map_cons, cv, e2] at hk ⊢
  exact va_tb hx hb (hE.2.1.1 j hj).2.2.2 hR.2.2.1 (inb_in hi) rfl hdg hk
theorem h_i2c {x : Int32} (hdg : decode cc pc = .ok (.i2c, 1)) (k : Here X cc own mL ret d nm (pc + 1) lo (.inl (x.toUInt32 % 65536).toInt32 :: st) I P O D n Q) : Here X cc own mL ret d nm pc lo (.inl x :: st) I P O D n Q := by
  obtain ⟨p, l, e, R, s, m, args, below, meth, co, Dg, cy, N0, n0, ad0, sv, hh⟩ := X
  refine ⟨k.1, fun C ad H locs ls hR => ?_⟩
  exact lv_i2c C.1 C.2.1 hdg rfl (k.2 C ad H locs ls hR)
theorem h_tyret {x : Int32} (ty : FieldType) (hdg : decode cc pc = .ok (.ireturn, 1)) (hr : ret = some ty) (hx : narrow ty (.int x) = .int x) (E : EndR X cc own mL ret d n (some (.inl x)) I P O D Q) : Here X cc own mL ret d n pc lo [.inl x] I P O D n Q := by
  obtain ⟨p, l, e, R, s, m, args, below, meth, co, Dg, cy, N0, n0, ad0, sv, hh⟩ := X
  refine ⟨Nat.le_refl _, fun C ad H locs ls hR => E C ad H locs ls pc ⟨hR.1, hR.2.1, hR.2.2.1, lv_mono hR.2.2.2.1 (fun q h => by simp [lvl] at h), hR.2.2.2.2⟩ hdg ⟨ty, hr, hx⟩⟩
end Strs
/-- Preconditions.checkIndex, within: whatever its third argument is -/
theorem c_chk3 (l : Launch) (i len : Int32) (w : Value) (hw : w.category = 1) (h0 : ¬ i < 0) (h1 : i < len) (free : Addr → Prop) : Met l yJ3_checkIndex_8e157 (WS yJ3_checkIndex_8e157 cJ3_checkIndex_8e157 3 (some .int)) (rmd 1 0) (fun a _ => a = [Value.int i, Value.int len, w].toArray) (fun _ st oc t => oc = .returned (some (.int i)) ∧ t.heap = st.heap) 0 0 free := by
  refine Met.ofW (cc := cJ3_checkIndex_8e157) (maxL := 3) (ret := some .int) (by decide) rfl ?_
  intro p e s m args below meth c s₁ B hml hv
  have hv : args = [Value.int i, Value.int len, w].toArray := hv
  subst hv
  have hx := B.exec
  have hb := B.bytes
  have hlocks := B.notSynchronized
  have hl := lv_entry ([.int i, .int len, w]) (n := 3) (by simp only [lg_sl, List.flatMap_cons, List.flatMap_nil, hw, show (Value.int i).category = 1 from rfl, show (Value.int len).category = 1 from rfl]; simp)
  rw [lg_entry_eq]
  generalize (lg_sl ([.int i, .int len, w]) ++ List.replicate (3 - (lg_sl ([.int i, .int len, w])).length) Slot.unset).toArray = ls at hl ⊢
  have hl : lv_has ls 3 [(0, .int i), (1, .int len), (2, w)] := hl
  refine lv_iload_n hx hb dJ3_checkIndex_8e157_0 rfl (lv_at hl 0 rfl) ?_
  refine lv_if_lt (tgt := 9) hx hb dJ3_checkIndex_8e157_1 (by decide) (fun q => absurd q h0) (fun _ => ?_)
  refine lv_iload_n hx hb dJ3_checkIndex_8e157_4 rfl (lv_at hl 0 rfl) ?_
  refine lv_iload_n hx hb dJ3_checkIndex_8e157_5 rfl (lv_at hl 1 rfl) ?_
  refine lv_icmp_lt (tgt := 16) hx hb dJ3_checkIndex_8e157_6 (by decide) (fun _ => ?_) (fun q => absurd h1 q)
  refine lv_iload_n hx hb dJ3_checkIndex_8e157_16 rfl (lv_at hl 0 rfl) ?_
  exact W.iret hx hb B.returns (fun t ht _ => ⟨rfl, ht⟩) (fun q h => by cases h) dJ3_checkIndex_8e157_17
section Chk
variable {X : CX} {cc : ByteArray} {mL : Nat} {ret : Option FieldType} {d nm pc : Nat} {lo : List (Option AV)} {I : Mem} {P : PMem} {O : Nat → Int64} {D : Bool} {n : Nat} {Q : State → Prop}
/-- getstatic; invokestatic Preconditions.checkIndex; pop -/
theorem h_chk {i len : Int32} (h0 : ¬ i < 0) (h1 : i < len) (hd : 3 ≤ d) (d2 : decode cc pc = .ok (.getstatic 1053, 3)) (d5 : decode cc (pc + 3) = .ok (.invokestatic 1059, 3)) (d8 : decode cc (pc + 6) = .ok (.pop, 1))
    (k : Here X cc RJ0 mL ret d nm (pc + 7) lo [] I P O D n Q) : Here X cc RJ0 mL ret d nm pc lo [.inl len, .inl i] I P O D n Q := by
  obtain ⟨p, l, e, R, s, m, args, below, meth, co, Dg, cy, N0, n0, ad0, sv, hh⟩ := X
  refine ⟨k.1, fun C ad H locs ls hR => ?_⟩
  obtain ⟨hx, hb, hml, hret, hlocks, hown, hts, hK, hN, hfr, hlo, hce, hsl, htr, htb, hE⟩ := id C
  have hnm := k.1
  have hk := k.2 C ad H locs ls hR
  obtain ⟨hw1, hw2, hmL⟩ := cs_J0_1059
  have main : ∀ w : Value, w.category = 1 → W p l e R s m args below meth co H locs (n - n0) (6 * (n - n0)) Q (F0 m (pc + 3) ls (w :: .int len :: .int i :: [])) := by
    intro w hw
    have hrun := va_runS (As := [.int i, .int len, w]) (rest := []) (g := F0 m (pc + 3) ls (w :: .int len :: .int i :: [])) (H := H) (locs := locs) (cells := n - n0) (slots := 6 * (n - n0)) (e := e) (below := below) (meth := meth) (R := R) ⟨hx, hb, hml, hown, hts⟩ (c_chk3 l i len w hw h0 h1 (AN N0)) (va_cwS 3 hts (GoodGW hw1) rfl rfl rfl hw2 ⟨by show 1 + 1 ≤ R.frames; omega, by show 8 + (3 + 11) + 64 * 1 ≤ R.locals; omega⟩) ⟨fun a U g mk q => q, fun U hU hW => rfl⟩ rfl rfl hR.2.2.2.1.1 rfl (lv_room (Nat.le_of_ble_eq_true rfl)) d5 ⟨by omega, by omega⟩
    intro T hT X9
    obtain ⟨v9, st₀, t, T', L, e0, X', hL, e1, e2, ⟨hv9, ht⟩, go⟩ := hrun T hT X9
    cases hv9
    have hH : T'.heap = H := by rw [e1, ht, e0]
    have hS' : va_S (AN N0) s.heap H (locs ++ L) := ⟨hR.2.2.1.1, hR.2.2.1.2.1, fun q hq => by
      rcases List.mem_append.mp hq with h | h
      · exact hR.2.2.1.2.2 q h
      · exact hL q h⟩
    have hk2 := k.2 C ad H (locs ++ L) ls ⟨hR.1, hR.2.1, hS', hR.2.2.2⟩
    have hp := lv_pop (va := .int i) hx hb d8 rfl hk2
    obtain ⟨t2, a1, b1⟩ := hp T' hH X'
    exact ⟨t2, go t2 a1, b1⟩
  rcases hE.2.2.2.2.2.1 with hz | ⟨t, hz⟩
  · exact va_gets hx hb hz hR.2.2.1 hown (hts _ wf_J0_1053) (fun x h => h) d2 (main .null rfl)
  · exact va_gets hx hb hz hR.2.2.1 hown (hts _ wf_J0_1053) (fun x h => h) d2 (main (.ref t) rfl)
end Chk
section JM
variable {I : Mem} {P : PMem} {O : Nat → Int64} {D : Bool} {n j : Nat} {i len : Int32}
theorem m_chk0 (h0 : ¬ i < 0) (h1 : i < len) : MethR yJ0_checkIndex_df160 cJ0_checkIndex_df160 2 none 3 [.inl i, .inl len] I P O D n none I P O D n := meth_R (Nat.le_refl _) (by decide) rfl (Nat.le_of_ble_eq_true rfl) rfl (fun X Q E => by
  refine h_iload_n dJ0_checkIndex_df160_0 rfl ?_
  refine h_iload_n dJ0_checkIndex_df160_1 rfl ?_
  refine h_chk h0 h1 (by decide) dJ0_checkIndex_df160_2 dJ0_checkIndex_df160_5 dJ0_checkIndex_df160_8 ?_
  exact h_vret dJ0_checkIndex_df160_9 rfl E)
theorem m_coder (hj : j < nStr) : MethR yJ0_coder_7d493 cJ0_coder_7d493 1 (some .byte) 1 [.inr (.inr (90, j, 0))] I P O D n (some (.inl 0)) I P O D n := meth_R (Nat.le_refl _) (by decide) rfl (Nat.le_of_ble_eq_true rfl) rfl (fun X Q E => by
  refine h_scmp dJ0_coder_7d493_0 ?_
  refine h_if_eq (tgt := 13) dJ0_coder_7d493_3 (by decide) (fun q => absurd q (by decide)) (fun _ => ?_)
  refine h_aload_n dJ0_coder_7d493_6 rfl ?_
  refine h_scod hj dJ0_coder_7d493_7 ?_
  refine h_goto (tgt := 14) dJ0_coder_7d493_10 (by decide) ?_
  exact h_tyret .byte dJ0_coder_7d493_14 rfl (by rfl) E)
theorem m_latin (hj : j < nStr) : MethR yJ0_isLatin1_aae02 cJ0_isLatin1_aae02 1 (some .boolean) 1 [.inr (.inr (90, j, 0))] I P O D n (some (.inl 1)) I P O D n := meth_R (Nat.le_refl _) (by decide) rfl (Nat.le_of_ble_eq_true rfl) rfl (fun X Q E => by
  refine h_scmp dJ0_isLatin1_aae02_0 ?_
  refine h_if_eq (tgt := 17) dJ0_isLatin1_aae02_3 (by decide) (fun q => absurd q (by decide)) (fun _ => ?_)
  refine h_aload_n dJ0_isLatin1_aae02_6 rfl ?_
  refine h_scod hj dJ0_isLatin1_aae02_7 ?_
  refine h_if_ne (tgt := 17) dJ0_isLatin1_aae02_10 (by decide) (fun q => absurd rfl q) (fun _ => ?_)
  refine h_iconst (1 : Int32) dJ0_isLatin1_aae02_13 k_iconst_1 ?_
  refine h_goto (tgt := 18) dJ0_isLatin1_aae02_14 (by decide) ?_
  exact h_zret dJ0_isLatin1_aae02_18 rfl rfl E)
theorem inb_parts {k : Nat} (hk : k < 2 ^ 31) (h : inb i k = true) : ¬ i < 0 ∧ i < Int32.ofNat k := by
  have := of_decide_eq_true h
  refine ⟨not_neg this.1, Int32.lt_iff_toInt_lt.mpr ?_⟩
  have e : (Int32.ofNat k).toInt = (k : Int) := nI_toInt hk
  rw [e]
  exact this.2
theorem m_lat1 (hj : j < nStr) (hi : inb i (strL.getD j 0) = true) : MethR yJ1_charAt_3b067 cJ1_charAt_3b067 2 (some .char) 4 [.inr (.inr (91, j, 0)), .inl i] I P O D n (some (.inl (schr j i.toNatClampNeg))) I P O D n := meth_R (Nat.le_refl _) (by decide) rfl (Nat.le_of_ble_eq_true rfl) rfl (fun X Q E => by
  have hL := strL_ok j hj
  obtain ⟨h0, h1⟩ := inb_parts (by omega) hi
  refine h_iload_n dJ1_charAt_3b067_0 rfl ?_
  refine h_aload_n dJ1_charAt_3b067_1 rfl ?_
  refine h_slenB hj dJ1_charAt_3b067_2 ?_
  refine h_cSv [.inl i, .inl (slen j)] (m_chk0 h0 h1) cs_J1_9 dJ1_charAt_3b067_3 rfl (by decide) rfl (Or.inr rfl) rfl ?_
  refine h_aload_n dJ1_charAt_3b067_6 rfl ?_
  refine h_iload_n dJ1_charAt_3b067_7 rfl ?_
  refine h_sbald hj hi dJ1_charAt_3b067_8 ?_
  refine h_sipush (255 : Int32) dJ1_charAt_3b067_9 k_sipush_255 ?_
  refine h_iand dJ1_charAt_3b067_12 ?_
  refine h_i2c dJ1_charAt_3b067_13 ?_
  refine h_nmv (y := schr j i.toNatClampNeg) (sc_c2 _).symm ?_
  exact h_tyret .char dJ1_charAt_3b067_14 rfl (sc_nar _) E)
end JM
theorem ia_9 {z : Nat} (hz : z < 2) : iaOK 9 z 0 = true := by simp [iaOK, show cK 9 = 1 from rfl, show cN 9 = 2 from rfl, show cR 9 = 1 from rfl, hz]
theorem ia_10 {z : Nat} (hz : z < 2) : iaOK 10 z 0 = true := by simp [iaOK, show cK 10 = 1 from rfl, show cN 10 = 2 from rfl, show cR 10 = 1 from rfl, hz]
theorem ia_12 {z : Nat} (hz : z < 2) {r : Nat} (hr : r < 5) : iaOK 12 z r = true := by simp [iaOK, show cK 12 = 1 from rfl, show cN 12 = 2 from rfl, show cR 12 = 5 from rfl, hz, hr]
theorem ia_14 {z : Nat} (hz : z < 2) {r : Nat} (hr : r < 5) : iaOK 14 z r = true := by simp [iaOK, show cK 14 = 1 from rfl, show cN 14 = 2 from rfl, show cR 14 = 5 from rfl, hz, hr]
theorem ia_16 {z : Nat} (hz : z < 2) {r : Nat} (hr : r < 6) : iaOK 16 z r = true := by simp [iaOK, show cK 16 = 1 from rfl, show cN 16 = 2 from rfl, show cR 16 = 6 from rfl, hz, hr]
theorem ia_18 {z : Nat} (hz : z < 2) {r : Nat} (hr : r < 6) : iaOK 18 z r = true := by simp [iaOK, show cK 18 = 1 from rfl, show cN 18 = 2 from rfl, show cR 18 = 6 from rfl, hz, hr]
theorem ia_20 {z : Nat} (hz : z < 2) {r : Nat} (hr : r < 6) : iaOK 20 z r = true := by simp [iaOK, show cK 20 = 1 from rfl, show cN 20 = 2 from rfl, show cR 20 = 6 from rfl, hz, hr]
theorem ia_21 {z : Nat} (hz : z < 2) : iaOK 21 z 0 = true := by simp [iaOK, show cK 21 = 1 from rfl, show cN 21 = 2 from rfl, show cR 21 = 1 from rfl, hz]
theorem ia_23 {z : Nat} (hz : z < 2) {r : Nat} (hr : r < 5) : iaOK 23 z r = true := by simp [iaOK, show cK 23 = 1 from rfl, show cN 23 = 2 from rfl, show cR 23 = 5 from rfl, hz, hr]
theorem ia_24 {z : Nat} (hz : z < 2) : iaOK 24 z 0 = true := by simp [iaOK, show cK 24 = 1 from rfl, show cN 24 = 2 from rfl, show cR 24 = 1 from rfl, hz]
theorem ia_25 {z : Nat} (hz : z < 2) : iaOK 25 z 0 = true := by simp [iaOK, show cK 25 = 1 from rfl, show cN 25 = 2 from rfl, show cR 25 = 1 from rfl, hz]
theorem ia_26 {z : Nat} (hz : z < 2) : iaOK 26 z 0 = true := by simp [iaOK, show cK 26 = 1 from rfl, show cN 26 = 2 from rfl, show cR 26 = 1 from rfl, hz]
theorem ia_28 {z : Nat} (hz : z < 2) {r : Nat} (hr : r < 9) : iaOK 28 z r = true := by simp [iaOK, show cK 28 = 1 from rfl, show cN 28 = 2 from rfl, show cR 28 = 9 from rfl, hz, hr]
theorem ia_30 {z : Nat} (hz : z < 2) {r : Nat} (hr : r < 9) : iaOK 30 z r = true := by simp [iaOK, show cK 30 = 1 from rfl, show cN 30 = 2 from rfl, show cR 30 = 9 from rfl, hz, hr]
theorem ia_32 {z : Nat} (hz : z < 2) {r : Nat} (hr : r < 9) : iaOK 32 z r = true := by simp [iaOK, show cK 32 = 1 from rfl, show cN 32 = 2 from rfl, show cR 32 = 9 from rfl, hz, hr]
theorem ia_33 {z : Nat} (hz : z < 2) : iaOK 33 z 0 = true := by simp [iaOK, show cK 33 = 1 from rfl, show cN 33 = 2 from rfl, show cR 33 = 1 from rfl, hz]
theorem ia_34 {z : Nat} (hz : z < 2) : iaOK 34 z 0 = true := by simp [iaOK, show cK 34 = 1 from rfl, show cN 34 = 2 from rfl, show cR 34 = 1 from rfl, hz]
theorem ia_35 {z : Nat} (hz : z < 2) : iaOK 35 z 0 = true := by simp [iaOK, show cK 35 = 1 from rfl, show cN 35 = 2 from rfl, show cR 35 = 1 from rfl, hz]
theorem ia_36 {z : Nat} (hz : z < 2) : iaOK 36 z 0 = true := by simp [iaOK, show cK 36 = 1 from rfl, show cN 36 = 2 from rfl, show cR 36 = 1 from rfl, hz]
theorem ia_38 {z : Nat} (hz : z < 2) {r : Nat} (hr : r < 5) : iaOK 38 z r = true := by simp [iaOK, show cK 38 = 1 from rfl, show cN 38 = 2 from rfl, show cR 38 = 5 from rfl, hz, hr]
theorem ia_40 {z : Nat} (hz : z < 2) {r : Nat} (hr : r < 6) : iaOK 40 z r = true := by simp [iaOK, show cK 40 = 1 from rfl, show cN 40 = 2 from rfl, show cR 40 = 6 from rfl, hz, hr]
theorem ia_41 {z : Nat} (hz : z < 2) : iaOK 41 z 0 = true := by simp [iaOK, show cK 41 = 1 from rfl, show cN 41 = 2 from rfl, show cR 41 = 1 from rfl, hz]
theorem ia_42 {z : Nat} (hz : z < 2) : iaOK 42 z 0 = true := by simp [iaOK, show cK 42 = 1 from rfl, show cN 42 = 2 from rfl, show cR 42 = 1 from rfl, hz]
theorem ia_43 {z : Nat} (hz : z < 2) : iaOK 43 z 0 = true := by simp [iaOK, show cK 43 = 1 from rfl, show cN 43 = 2 from rfl, show cR 43 = 1 from rfl, hz]
theorem ia_44 {z : Nat} (hz : z < 10) : iaOK 44 z 0 = true := by simp [iaOK, show cK 44 = 1 from rfl, show cN 44 = 10 from rfl, show cR 44 = 1 from rfl, hz]
theorem ia_45 {z : Nat} (hz : z < 10) : iaOK 45 z 0 = true := by simp [iaOK, show cK 45 = 1 from rfl, show cN 45 = 10 from rfl, show cR 45 = 1 from rfl, hz]
theorem ia_46 {z : Nat} (hz : z < 10) : iaOK 46 z 0 = true := by simp [iaOK, show cK 46 = 1 from rfl, show cN 46 = 10 from rfl, show cR 46 = 1 from rfl, hz]
/-- the words of a call of a string's own method -/
def CWZ (own : String) (idx : Nat) (y : MethodName) (cc : ByteArray) (mL : Nat) (ret : Option FieldType) (na : Nat) : Prop :=
  (∀ w ∈ wsV own idx y.cls y (WS y cc mL ret), w ∈ GW) ∧ (y.cls ≠ "java/lang/invoke/MethodHandle" ∧ y.cls ≠ "java/lang/invoke/VarHandle" ∧ (parseMethodDescriptor y.desc).map (fun d => d.parameters.length) = some na) ∧ y.cls = "java/lang/String" ∧ mL ≤ 40
theorem CWZ.mk {own : String} {idx : Nat} {y : MethodName} {cc : ByteArray} {mL : Nat} {ret : Option FieldType} {na : Nat} (h1 : Cond.methodLink own idx y ∈ GW) (h2 : Cond.instanceMethod y ∈ GW) (h3 : Cond.selects y.cls y y ∈ GW) (h4 : Cond.initialized y.cls ∈ GW) (h5 : Cond.code y cc mL ret ∈ GW)
    (h6 : y.cls ≠ "java/lang/invoke/MethodHandle" ∧ y.cls ≠ "java/lang/invoke/VarHandle" ∧ (parseMethodDescriptor y.desc).map (fun d => d.parameters.length) = some na) (h7 : y.cls = "java/lang/String") (h9 : mL ≤ 40) : CWZ own idx y cc mL ret na := by
  refine ⟨fun w hw => ?_, h6, h7, h9⟩
  rcases List.mem_append.mp hw with h | h
  · simp only [List.mem_cons, List.not_mem_nil, or_false] at h
    rcases h with rfl | rfl | rfl | rfl
    · exact h1
    · exact h2
    · exact h3
    · exact h4
  · rcases List.mem_cons.mp h with rfl | h
    · exact h5
    · exact h
section CallZ
variable {X : CX} {cc : ByteArray} {own : String} {mL : Nat} {ret : Option FieldType} {d nm pc : Nat} {lo : List (Option AV)} {st stk : List AV} {I : Mem} {P : PMem} {O : Nat → Int64} {D : Bool} {n : Nat} {Q : State → Prop}
theorem h_callZ {x : Int32} {y : MethodName} {bytes : ByteArray} {maxL d' idx j na : Nat} {rt : Option FieldType} (as : List AV) (hj : j < nStr) (hM : MethR y bytes maxL rt d' (.inr (.inr (90, j, 0)) :: as) I P O D n (some (.inl x)) I P O D n) (hw : CWZ own idx y bytes maxL rt na) (hdg : decode cc pc = .ok (.invokevirtual idx, 3))
    (hna : as.length = na) (hd : d' + 1 ≤ d) (hr : Nat.ble (catS st) 8 = true) (hst : stk = as.reverse ++ .inr (.inr (90, j, 0)) :: st)
    (k : Here X cc own mL ret d nm (pc + 3) lo (.inl x :: st) I P O D n Q) : Here X cc own mL ret d nm pc lo stk I P O D n Q := by
  obtain ⟨p, l, e, R, s, m, args, below, meth, co, Dg, cy, N0, n0, ad0, sv, hh⟩ := X
  obtain ⟨hw1, hw2, hcls, hmL⟩ := hw
  have hnn := hM.1
  refine ⟨Nat.le_trans hnn k.1, fun C ad H locs ls hR => ?_⟩
  obtain ⟨hx, hb, hml, hret, hlocks, hown, hts, hK, hN, hfr, hlo, hce, hsl, htr, htb, hE⟩ := id C
  obtain ⟨hP, hD, hS, hl, hn0, had, hk0⟩ := id hR
  have hnm := k.1
  have e1 : ad (90, j, 0) = ad0 (90, j, 0) := had _ (by simp)
  refine call_go (st := st) (v := some (.inl x)) (a := (Value.ref (ad (90, j, 0)) :: as.map (cv ad)).toArray) hnn hR C (Or.inr rfl) (va_runV (As := as.map (cv ad)) (rest := st.map (cv ad)) (b := ad (90, j, 0)) ⟨hx, hb, hml, hown, hts⟩ (hM.2 l N0 Dg cy ad sv htr) (cwV na hts (GoodGW hw1) rfl rfl rfl ⟨rfl, hw2⟩ ⟨by show d' + 1 ≤ R.frames; omega, by show 8 + (maxL + 11) + 64 * d' ≤ R.locals; omega⟩) ⟨PcA.blind, by rw [e1, hcls]; exact vk_recv hE.2.1 hj hS, fun U hU hW => PcA.at (as := .inr (.inr (90, j, 0)) :: as) C hR U hU hW⟩ rfl (by rw [List.length_map]; exact hna) hl.1 ?_ (lv_room (by rw [catS_eq]; exact Nat.le_of_ble_eq_true hr)) hdg ⟨by omega, by omega⟩) k
  show stk.map (cv ad) = _
  rw [hst, List.map_append, List.map_reverse, List.map_cons]
  rfl
end CallZ
theorem cz_X5_219 : CWZ RX5 219 yJ0_length_8abf5 cJ0_length_8abf5 1 (some .int) 0 := CWZ.mk ml_X5_219 wI_J0_length_8abf5 wS_J0_length_8abf5 wN_J0 wC_J0_length_8abf5 (by decide +kernel) (by decide) (by decide)
theorem cz_J0_335 : CWZ RJ0 335 yJ0_coder_7d493 cJ0_coder_7d493 1 (some .byte) 0 := CWZ.mk ml_J0_335 wI_J0_coder_7d493 wS_J0_coder_7d493 wN_J0 wC_J0_coder_7d493 (by decide +kernel) (by decide) (by decide)
theorem cz_X5_223 : CWZ RX5 223 yJ0_charAt_5068e cJ0_charAt_5068e 2 (some .char) 1 := CWZ.mk ml_X5_223 wI_J0_charAt_5068e wS_J0_charAt_5068e wN_J0 wC_J0_charAt_5068e (by decide +kernel) (by decide) (by decide)
theorem cz_J0_492 : CWZ RJ0 492 yJ0_isLatin1_aae02 cJ0_isLatin1_aae02 1 (some .boolean) 0 := CWZ.mk ml_J0_492 wI_J0_isLatin1_aae02 wS_J0_isLatin1_aae02 wN_J0 wC_J0_isLatin1_aae02 (by decide +kernel) (by decide) (by decide)
theorem cz_X8_205 : CWZ RX8 205 yJ0_length_8abf5 cJ0_length_8abf5 1 (some .int) 0 := CWZ.mk ml_X8_205 wI_J0_length_8abf5 wS_J0_length_8abf5 wN_J0 wC_J0_length_8abf5 (by decide +kernel) (by decide) (by decide)
theorem cz_X8_209 : CWZ RX8 209 yJ0_charAt_5068e cJ0_charAt_5068e 2 (some .char) 1 := CWZ.mk ml_X8_209 wI_J0_charAt_5068e wS_J0_charAt_5068e wN_J0 wC_J0_charAt_5068e (by decide +kernel) (by decide) (by decide)
section JM2
variable {I : Mem} {P : PMem} {O : Nat → Int64} {D : Bool} {n j : Nat} {i : Int32}
theorem m_slen (hj : j < nStr) : MethR yJ0_length_8abf5 cJ0_length_8abf5 1 (some .int) 6 [.inr (.inr (90, j, 0))] I P O D n (some (.inl (slen j))) I P O D n := meth_R (Nat.le_refl _) (by decide) rfl (Nat.le_of_ble_eq_true rfl) rfl (fun X Q E => by
  refine h_aload_n dJ0_length_8abf5_0 rfl ?_
  refine h_sval hj dJ0_length_8abf5_1 ?_
  refine h_slenB hj dJ0_length_8abf5_4 ?_
  refine h_aload_n dJ0_length_8abf5_5 rfl ?_
  refine h_callZ [] hj (m_coder hj) cz_J0_335 dJ0_length_8abf5_6 rfl (by decide) rfl rfl ?_
  refine h_ishr dJ0_length_8abf5_9 ?_
  refine h_nmv (y := slen j) (sb_shr0 _).symm ?_
  exact h_iret dJ0_length_8abf5_10 rfl E)
theorem m_schr (hj : j < nStr) (hi : inb i (strL.getD j 0) = true) : MethR yJ0_charAt_5068e cJ0_charAt_5068e 2 (some .char) 8 [.inr (.inr (90, j, 0)), .inl i] I P O D n (some (.inl (schr j i.toNatClampNeg))) I P O D n := meth_R (Nat.le_refl _) (by decide) rfl (Nat.le_of_ble_eq_true rfl) rfl (fun X Q E => by
  refine h_aload_n dJ0_charAt_5068e_0 rfl ?_
  refine h_callZ [] hj (m_latin hj) cz_J0_492 dJ0_charAt_5068e_1 rfl (by decide) rfl rfl ?_
  refine h_if_eq (tgt := 16) dJ0_charAt_5068e_4 (by decide) (fun q => absurd q (by decide)) (fun _ => ?_)
  refine h_aload_n dJ0_charAt_5068e_7 rfl ?_
  refine h_sval hj dJ0_charAt_5068e_8 ?_
  refine h_iload_n dJ0_charAt_5068e_11 rfl ?_
  refine h_cSi [.inr (.inr (91, j, 0)), .inl i] (m_lat1 hj hi) cs_J0_495 dJ0_charAt_5068e_12 rfl (by decide) rfl (Or.inr rfl) rfl ?_
  exact h_tyret .char dJ0_charAt_5068e_15 rfl (sc_nar _) E)
end JM2
section JR
variable {X : CX} {cc : ByteArray} {own : String} {mL : Nat} {ret : Option FieldType} {d nm pc : Nat} {lo : List (Option AV)} {st : List AV} {I : Mem} {P : PMem} {O : Nat → Int64} {D : Bool} {n : Nat} {Q : State → Prop}
theorem h_slen {idx j : Nat} (hj : j < nStr) (hw : CWZ own idx yJ0_length_8abf5 cJ0_length_8abf5 1 (some .int) 0) (hdg : decode cc pc = .ok (.invokevirtual idx, 3)) (hd : 6 + 1 ≤ d) (hr : Nat.ble (catS st) 8 = true) (k : Here X cc own mL ret d nm (pc + 3) lo (.inl (slen j) :: st) I P O D n Q) : Here X cc own mL ret d nm pc lo (.inr (.inr (90, j, 0)) :: st) I P O D n Q := h_callZ [] hj (m_slen hj) hw hdg rfl hd hr rfl k
theorem h_schr {idx j : Nat} {i : Int32} (hj : j < nStr) (hw : CWZ own idx yJ0_charAt_5068e cJ0_charAt_5068e 2 (some .char) 1) (hdg : decode cc pc = .ok (.invokevirtual idx, 3)) (hi : inb i (strL.getD j 0) = true) (hd : 8 + 1 ≤ d) (hr : Nat.ble (catS st) 8 = true) (k : Here X cc own mL ret d nm (pc + 3) lo (.inl (schr j i.toNatClampNeg) :: st) I P O D n Q) : Here X cc own mL ret d nm pc lo (.inl i :: .inr (.inr (90, j, 0)) :: st) I P O D n Q := h_callZ [.inl i] hj (m_schr hj hi) hw hdg rfl hd hr rfl k
/-- an array of strings -/
def saOK (c : Nat) : Prop := c = 48 ∨ c = 49
theorem h_sald {c : Nat} {i : Int32} (hc : saOK c) (hdg : decode cc pc = .ok (.aaload, 1)) (hi : inb i (cL c 0) = true) (k : Here X cc own mL ret d nm (pc + 1) lo (.inr (.inr (90, cS c + i.toNatClampNeg, 0)) :: st) I P O D n Q) : Here X cc own mL ret d nm pc lo (.inl i :: .inr (.inr (c, 0, 0)) :: st) I P O D n Q := by
  rcases hc with rfl | rfl
  · exact h_aalds rfl hdg rfl hi k
  · exact h_aalds rfl hdg rfl hi k
theorem h_salen {c : Nat} (hc : saOK c) (hdg : decode cc pc = .ok (.arraylength, 1)) (k : Here X cc own mL ret d nm (pc + 1) lo (.inl (Int32.ofNat (cL c 0)) :: st) I P O D n Q) : Here X cc own mL ret d nm pc lo (.inr (.inr (c, 0, 0)) :: st) I P O D n Q := by
  rcases hc with rfl | rfl
  · exact h_alens _ rfl hdg rfl rfl k
  · exact h_alens _ rfl hdg rfl rfl k
theorem sa_lt {c : Nat} {i : Int32} (hc : saOK c) (hi : inb i (cL c 0) = true) : cS c + i.toNatClampNeg < nStr := by
  have := inb_lt hi
  rcases hc with rfl | rfl
  · have e : cL 48 0 = 3 := rfl
    have e2 : cS 48 = 0 := rfl
    have e3 : nStr = 25 := rfl
    omega
  · have e : cL 49 0 = 5 := rfl
    have e2 : cS 49 = 3 := rfl
    have e3 : nStr = 25 := rfl
    omega
end JR
section TXW
variable {p : Program} {l : Launch} {e : Env} {R : Room} {s : State} {m : MethodId} {args : Array Value} {below : List Frame} {meth : Method} {c : Code} {H : Heap} {locs : List Loc} {cells slots : Nat} {Q : State → Prop}
variable {mc ms : Nat} {free : Addr → Prop} {A0 A1 : Nat → Prop} {H0 : Heap} {a : Array Value} {ls : Array Slot} {st0 rest : List Value}
variable {Qc : Array Value → State → Outcome → State → Prop} {XC : String → State → State → Prop}
theorem tx_throwSW {cc : ByteArray} {pc : Nat} (hexec : p.tables.exec = Jvm.exec) (hb : c.code = cc) (hl : l.stackTraces = false) {own cls text : String} {names : List String} {ik is ic mc ms sa ix : Nat} {rx : ByteArray} (x0 : decode rx 0 = .ok (.aload_n 0, 1)) (x1 : decode rx 1 = .ok (.aload_n 1, 1)) (x2 : decode rx 2 = .ok (.invokespecial ix, 3)) (x5 : decode rx 5 = .ok (.return_, 1)) {A : Nat → Prop}
    (hown : s.vm.findClass own = some m.cls) (hcls : Bundle.fit cls = true) (hnames : ∀ n ∈ names, Bundle.fit n = true)
    (hk : (Cond.classLink own ik cls).before args s = true) (hini : (Cond.initialized cls).before args s = true) (hstr : vk_R own is text sa s) (hat : ∀ w ∈ tx_atS own ic cls ix rx names, w.before args s = true)
    (hgood : ∀ w ∈ Cond.classLink own ik cls :: Cond.initialized cls :: tx_atS own ic cls ix rx names, vx_ot w = true)
    (hU : vx_Zq Bundle.tN "UNASSIGNED_STACK" Bundle.steD A s s.heap) (hN : vx_Zq Bundle.tN "SUPPRESSED_SENTINEL" Bundle.listD A s s.heap) (hS : va_S A s.heap H locs) (hsize : ls.size = c.maxLocals)
    (d0 : decode cc pc = .ok (.new ik, 3)) (d3 : decode cc (pc + 3) = .ok (.dup, 1)) (d4 : decode cc (pc + 4) = .ok (.ldc_w is, 3)) (d7 : decode cc (pc + 7) = .ok (.invokespecial ic, 3)) (d10 : decode cc (pc + 10) = .ok (.athrow, 1))
    (hout : ∀ x ∈ c.exceptionTable.toList, covers x (pc + 10) = false)
    (hRframes : names.length + 3 < R.frames) (hRlocals : (rest.map fun v => v.category).sum + (13 * (names.length + 1) + 43) ≤ R.locals) (hRcells : cells + 1 ≤ R.cells) (hRslots : slots + 6 ≤ R.slots) (hlocks : meth.locks = false)
    (hx : ∀ t : State, s.vm.Alike t.vm → H.size ≤ t.heap.size → (∀ q : Nat, q < H.size → t.heap[q]? = H[q]?) → XC cls s t)
    (hf : ∀ z ∈ locs, free z.base) (hc : cells + 1 ≤ mc) (hs : slots + 6 ≤ ms) :
    W p l e R s m args below meth c H locs cells slots (vx_MQ below Qc XC args s mc ms free) (F0 m pc ls rest) := by
  intro T hT X
  have htr : e.platform.stackTraces = false := (show e.platform.stackTraces = l.stackTraces by rw [X.admits.platform]).trans hl
  have Y := vx_rebase X (R' := { frames := R.frames, locals := R.locals, cells := 1, slots := 6 }) (Nat.le_refl _) (Nat.le_refl _) hRcells hRslots
  obtain ⟨s', hA⟩ : ∃ z, z = (T.setVm s.vm).setFrames (.invoking m args :: below) := ⟨_, rfl⟩
  rw [← hA] at Y
  have hvm : s'.vm = s.vm := by rw [hA]; rfl
  have hhp : s'.heap = H := by rw [hA]; exact hT
  have hW0 : s.WarmedH s'.vm := by rw [hvm]; exact State.WarmedH.refl s
  have hat' : ∀ w ∈ tx_atS own ic cls ix rx names, w.before args s' = true := fun w hw => vx_ot_at hW0 hvm.symm (hgood w (List.mem_cons_of_mem _ (List.mem_cons_of_mem _ hw))) (hat w hw)
  have hk' : (Cond.classLink own ik cls).before args s' = true := vx_ot_at hW0 hvm.symm (hgood _ List.mem_cons_self) hk
  have hini' : (Cond.initialized cls).before args s' = true := vx_ot_at hW0 hvm.symm (hgood _ (List.mem_cons_of_mem _ List.mem_cons_self)) hini
  have hU' : vx_Zq Bundle.tN "UNASSIGNED_STACK" Bundle.steD A s' s'.heap := by rw [hhp]; exact vx_Zq.moved hW0.alike (hU.kept hS.2.1)
  have hN' : vx_Zq Bundle.tN "SUPPRESSED_SENTINEL" Bundle.listD A s' s'.heap := by rw [hhp]; exact vx_Zq.moved hW0.alike (hN.kept hS.2.1)
  have h : ∀ w ∈ tx_atoms own ic cls ix rx names, w.before args s' = true := vx_own hat' (vx_isRefq hU'.1) (vx_isRefq hN'.1) hU'.2.word hN'.2.word
  have hown' : s'.vm.findClass own = some m.cls := by rw [hvm]; exact hown
  have hins : (Cond.instantiable cls 6).before args s' = true := h _ (by simp [tx_atoms])
  obtain ⟨vm₁, cX, kX, hfX, hkX, -, -, X₁, st1⟩ := Y.newCold hexec (own := own) (C := cls) (index := ik) (n := 6) hown' hk' hins hini'
    (g := F0 m pc ls rest) rfl (by rw [hb]; exact d0) (Nat.le_refl _) (Nat.le_refl _)
  generalize hT1 : (T.setVm vm₁).pushCell { cls := cX, slots := kX.instanceTypes.map defaultValue, vm := .none } = T1 at X₁ st1
  have hcat : (Value.ref T.heap.size).category = 1 := rfl
  have hcellA : T1.heap[T.heap.size]? = some (freshCell cX kX) := by rw [← hT1]; exact State.heap_pushCell_size _ _
  have d3' : decode c.code (pc + 3) = .ok (.dup, 1) := by rw [hb]; exact d3
  have d4' : decode c.code (pc + 4) = .ok (.ldc_w is, 3) := by rw [hb]; exact d4
  have hstr' : vk_R own is text sa s' := vk_R.warm hW0 hstr
  obtain ⟨U, hsteps, hrun, hend, hW, hsame, ce, hce, hO⟩ := tx_ctor X₁ hexec htr (own := own) (cls := cls) (names := names) (ic := ic) x0 x1 x2 x5 hown' hcls hnames h (fun x hx => nomatch hx) hfX hkX hcellA (by rw [hhp, hT]; exact Nat.le_refl _) (msg := .ref sa) rfl
    (g := { method := m, pc := pc + 7, locals := ls, stack := .ref sa :: .ref T.heap.size :: .ref T.heap.size :: rest, locked := none }) rfl hsize rfl rfl (rest := rest) rfl
    (by rw [hb]; exact d7) (by rw [hb]; exact d10) hout hRframes (by simp only [List.map_cons, List.sum_cons, hcat]; omega) hlocks
  obtain ⟨f1, f2⟩ := vx_frame hsame
  rw [hhp] at f1 f2
  have hWs : s.WarmedH U.vm := State.WarmedH.trans hW0 hW
  have hcl : s.vm.findClass cls = some ce.cls := by
    have h9 := hO.2
    rw [hvm] at h9
    exact h9
  have hall : s.sameButNew ({ U with vm := s.vm } : State) locs mc ms := by
    subst hA
    obtain ⟨e1, e2⟩ := hsame
    rw [State.setFrames_setFrames] at e1
    have h2 : (T.setVm s.vm).sameButNew ({ U with vm := s.vm } : State) [] (0 + 1) (0 + 6) := ⟨e1, e2⟩
    have h3 := X.same.trans h2
    rw [List.append_nil] at h3
    exact h3.mono hc hs
  refine ⟨U, ?_, .threw T.heap.size, hrun, hend, Or.inr ⟨T.heap.size, rfl, cls, ce, locs, hx U hWs.alike f1 (fun q hq => f2 q hq (fun z hz => nomatch hz)), hce, hO.1, hcl, hWs, hall, hf⟩⟩
  refine st1 _ ?_
  show Steps p.tables e below (T1.setTop { method := m, pc := pc + 3, locals := ls, stack := .ref T.heap.size :: rest, locked := none }) _
  jvm_step X₁.here [X₁.here.top, hexec, d3', Value.category]
  exact X₁.ldcStringW hexec (own := own) (text := text) (index := is) (a := sa) hown' hstr'.1 hstr'.2
    (g := { method := m, pc := pc + 4, locals := ls, stack := .ref T.heap.size :: .ref T.heap.size :: rest, locked := none }) rfl d4' _ hsteps
end TXW
section ThrowsW
variable {X : CX} {cc : ByteArray} {own : String} {mL : Nat} {ret : Option FieldType} {d nm pc : Nat} {lo : List (Option AV)} {st stk : List AV} {I I' : Mem} {P P' : PMem} {O O' : Nat → Int64} {D D' : Bool} {n n' : Nat} {Q : State → Prop}
theorem h_throwW {ik is ic ex j ix : Nat} {rx : ByteArray} {text : String} (hw : TWk own ik ic ex ix rx) (hs : (own, is, text, j) ∈ strT) (hdp : 6 ≤ d) (hr : Nat.ble (catS st) 8 = true)
    (d0 : decode cc pc = .ok (.new ik, 3)) (d3 : decode cc (pc + 3) = .ok (.dup, 1)) (d4 : decode cc (pc + 4) = .ok (.ldc_w is, 3)) (d6 : decode cc (pc + 7) = .ok (.invokespecial ic, 3)) (d9 : decode cc (pc + 10) = .ok (.athrow, 1))
    (E : EndX X cc own mL ret d (n + 1) ex I P O D Q) : Here X cc own mL ret d (n + 1) pc lo st I P O D n Q := by
  obtain ⟨p, l, e, R, s, m, args, below, meth, co, Dg, cy, N0, n0, ad0, sv, hh⟩ := X
  refine ⟨Nat.le_succ _, fun C ad H locs ls hR => ?_⟩
  obtain ⟨hhn, Qc, XC, rfl, hX⟩ := E C
  obtain ⟨w1, w2, w3, w4, w5, v0, v1, v2, v5⟩ := hw
  obtain ⟨hx, hb, hml, hret, hlocks, hown, hts, hK, hN, hfr, hlo, hce, hsl, htr, htb, hE⟩ := id C
  obtain ⟨hP, hD, hS, hl, hn0, had, hk0⟩ := id hR
  obtain ⟨x1, -, x3, x4, -, -, x7, x8, -⟩ := hE
  have hcat : ((st.map (cv ad)).map fun v => v.category).sum ≤ 8 := by rw [catS_eq]; exact Nat.le_of_ble_eq_true hr
  refine tx_throwSW (names := exL) hx hb htr v0 v1 v2 v5 hown w1 exL_fit (hts _ w2) (hts _ w3) (x1 _ hs) ?_ w5 x3 x4 hS (hl.1.trans hml.symm) d0 d3 d4 d6 d9 ?_ ?_ ?_ (by omega) (by omega) hlocks ?_ hS.2.2 (by omega) (by omega)
  · intro w h
    rcases w4 w h with h | rfl | ⟨Y, hY, rfl⟩
    · exact hts w h
    · exact va_Nw.use rfl (x7 ex)
    · exact va_Nw.use rfl (x8 Y hY)
  · rw [htb, hhn]
    intro x hx
    cases hx
  · show 2 + 3 < R.frames
    omega
  · show _ + (13 * (2 + 1) + 43) ≤ R.locals
    omega
  · intro t g1 g2 g3
    exact hX ad t (EnA.grow hP hD hS had (fun h => by omega) g2 g3)
end ThrowsW
