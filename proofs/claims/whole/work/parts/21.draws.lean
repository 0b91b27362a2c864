/-! new Draws(seed) -/
theorem nth_mem {α : Type} (d : α) : ∀ (l : List α) (n : Nat), nth d l n = d ∨ nth d l n ∈ l
  | [], _ => Or.inl rfl
  | a :: t, 0 => Or.inr List.mem_cons_self
  | a :: t, n + 1 => (nth_mem d t n).elim Or.inl (fun h => Or.inr (List.mem_cons_of_mem _ h))
theorem fldT_ne : ∀ l ∈ fldT, ∀ x ∈ l, x.2.1 ≠ 2 := by decide
theorem fE_ne (c j : Nat) : (fE c j).2.1 ≠ 2 := by
  unfold fE
  rcases nth_mem (6, 0, 0, 0) (nth [] fldT c) j with h | h
  · rw [h]; decide
  · rcases nth_mem [] fldT c with h2 | h2
    · rw [h2] at h; cases h
    · exact fldT_ne _ h2 _ h
theorem ce_ad {ad ad' : Id3 → Nat} (h : ∀ i : Id3, i ≠ (2, 0, 0) → ad' i = ad i) (cy : Nat → ClassId) (I : Mem) (P : PMem) (O : Nat → Int64) (i : Id3) : ce ad' cy I P O i = ce ad cy I P O i := by
  have h2 : ∀ c z r : Nat, c ≠ 2 → ad' (c, z, r) = ad (c, z, r) := fun c z r hc => h _ (fun e => hc (by cases e; rfl))
  unfold ce ceF
  split
  · congr 2
    apply List.map_congr_left
    intro j _
    unfold fv
    split
    · exact congrArg Value.ref (h2 _ _ _ (fE_ne i.1 j))
    · rw [h2 _ _ _ (fE_ne i.1 j)]
    · rfl
  · rfl
  · rfl
  · rename_i hk
    have hf : (fun k => some (ad' (i.1 + 1, i.2.1, k))) = fun k => some (ad (i.1 + 1, i.2.1, k)) := funext fun k => by
      rw [h2 _ _ _ (fun e => by
        have : i.1 = 1 := by omega
        rw [this] at hk
        cases hk)]
    rw [hf]
  · have hf : (fun k => some (ad' (90, cS i.1 + k, 0))) = fun k => some (ad (90, cS i.1 + k, 0)) := funext fun k => by
      rw [h2 _ _ _ (by decide)]
    rw [hf]
  · rfl
theorem CELLS_ne : ∀ i ∈ CELLS, i ≠ (2, 0, 0) := by decide +kernel
theorem wsl_false {ad : Id3 → Nat} {cy : Nat → ClassId} {I : Mem} {P : PMem} {O : Nat → Int64} {D : Bool} {k : Nat} {q : Nat × va_E} (h : (wsl ad cy I P O false)[k]? = some q) : (wsl ad cy I P O D)[k]? = some q := by
  cases D
  · exact h
  · have hl : k < CELLS.length := by
      have := (List.getElem?_eq_some_iff.mp h).1
      simpa [wsl, LST] using this
    unfold wsl LST at h ⊢
    rw [List.getElem?_map] at h ⊢
    rw [List.getElem?_append_left hl] at h ⊢
    exact h
theorem wo_1 : Cond.instanceMethod objectInit ∈ GW := by decide +kernel
theorem wo_2 : Cond.code objectInit ⟨#[0xb1]⟩ 1 none ∈ GW := by decide +kernel
theorem wi_2 : Cond.instantiable RX2 1 ∈ GW := by decide +kernel
section NewD
variable {X : CX} {cc : ByteArray} {own : String} {mL : Nat} {ret : Option FieldType} {d nm pc : Nat} {lo : List (Option AV)} {st stk : List AV} {I I' : Mem} {P P' : PMem} {O O' : Nat → Int64} {D D' : Bool} {n n' : Nat} {Q : State → Prop}
theorem h_objInit {idx : Nat} {i : Id3} (hw : Cond.methodLink own idx objectInit ∈ GW) (hd : 1 ≤ d) (hr : Nat.ble (catS st) 8 = true) (hdg : decode cc pc = .ok (.invokespecial idx, 3)) (k : Here X cc own mL ret d nm (pc + 3) lo st I P O D n Q) : Here X cc own mL ret d nm pc lo (.inr (.inr i) :: st) I P O D n Q := by
  obtain ⟨p, l, e, R, s, m, args, below, meth, co, Dg, cy, N0, n0, ad0, sv, hh⟩ := X
  refine ⟨k.1, fun C ad H locs ls hR => ?_⟩
  obtain ⟨hx, hb, hml, hret, hlocks, hown, hts, hK, hN, hfr, hlo, hce, hsl, htr, htb, hE⟩ := id C
  have hcat : ((st.map (cv ad)).map fun v => v.category).sum ≤ 8 := by rw [catS_eq]; exact Nat.le_of_ble_eq_true hr
  refine W.objInit hx hb hown (hts _ hw) (hts _ wo_1) (hts _ wo_2) rfl (by rw [hml]; exact hR.2.2.2.1.1) (rest := st.map (cv ad)) rfl hdg (by omega) (by show 2 * 0 + _ + 12 ≤ _; omega) ?_
  exact k.2 C ad H locs ls hR
theorem h_new2 {ik : Nat} (hdg : decode cc pc = .ok (.new ik, 3)) (hw : Cond.classLink own ik RX2 ∈ GW) (hnd : (noDl lo && noDs st) = true) (k : Here X cc own mL ret d nm (pc + 3) lo (.inr (.inr (2, 0, 0)) :: st) (upd4 I 2 0 0 0 0) P O true (n + 1) Q) : Here X cc own mL ret d nm pc lo st I P O D n Q := by
  obtain ⟨p, l, e, R, s, m, args, below, meth, co, Dg, cy, N0, n0, ad0, sv, hh⟩ := X
  have hnm := k.1
  refine ⟨by omega, fun C ad H locs ls hR => ?_⟩
  obtain ⟨hx, hb, hml, hret, hlocks, hown, hts, hK, hN, hfr, hlo, hce, hsl, htr, htb, hE⟩ := id C
  obtain ⟨hP, hD, hS, hl, hn0, had, hk0⟩ := id hR
  have hP0 : va_P Dg classes (wsl ad cy I P O false) H := fun k q h => hP k q (wsl_false h)
  have hD0 : va_D (AN N0) (wsl ad cy I P O false) := ⟨fun i j p q h1 h2 h3 => hD.1 i j p q (wsl_false h1) (wsl_false h2) h3, fun k q h => hD.2 k q (wsl_false h)⟩
  have hfs : ∀ j, j < 1 → defaultValue (tyX2 j) = vp_V [.int 0] j := fun j hj => by
    have h0 : j = 0 := Nat.lt_one_iff.mp hj
    subst h0
    rfl
  have c1 : n - n0 + 1 ≤ R.cells := by omega
  have c2 : 6 * (n - n0) + 1 ≤ R.slots := by omega
  refine va_new (ci := 2) (fs := [.int 0]) (C := RX2) (T := TX2) (N := 1) hx hb hts iX2 tyX2 tyX2_ok hown (hts _ hw) (hts _ wi_2) (hts _ wN_X2) hK hP0 hD0 hS (fun q h => Nat.le_trans hN h) kX2 hfs c1 c2 hdg (fun q H1 hP1 hD1 hS1 => ?_)
  have hne : ∀ i : Id3, i ≠ (2, 0, 0) → (fun i => if i = ((2, 0, 0) : Id3) then q else ad i) i = ad i := fun i hi => if_neg hi
  generalize had' : (fun i => if i = ((2, 0, 0) : Id3) then q else ad i) = ad' at hne
  have hq : ad' (2, 0, 0) = q := by rw [← had']; exact if_pos rfl
  have he : wsl ad cy I P O false ++ [(q, .inr (2, [.int 0]))] = wsl ad' cy (upd4 I 2 0 0 0 0) P O true := by
    unfold wsl LST
    rw [if_neg (by decide), if_pos rfl, List.append_nil, List.map_append]
    congr 1
    · apply List.map_congr_left
      intro i hi
      have hi2 := CELLS_ne i hi
      rw [hne i hi2, ce_off hi2, ce_ad hne]
    · show [(q, (.inr (2, [.int 0]) : va_E))] = [(ad' (2, 0, 0), ce ad' cy (upd4 I 2 0 0 0 0) P O (2, 0, 0))]
      rw [hq, ce_obj rfl]
      rfl
  rw [he] at hP1 hD1
  refine W.widen (k := n + 1 - n0) (n := 6 * (n + 1 - n0)) (by omega) (by omega) ?_
  simp only [Bool.and_eq_true] at hnd
  have hk := k.2 C ad' H1 locs ls ⟨hP1, hD1, hS1, by rw [lvl_congr hne 0 hnd.1]; exact hl, by omega, fun i hi => (hne i hi).trans (had i hi), fun h => by omega⟩
  rw [List.map_cons, cvs_congr hne hnd.2] at hk
  simp only [cv, hq] at hk
  exact hk
theorem h_callI {y : MethodName} {bytes : ByteArray} {maxL d' idx na : Nat} {i : Id3} {as : List AV} (hM : MethR y bytes maxL none d' (.inr (.inr i) :: as) I P O D n none I' P' O' D' n') (w1 : Cond.initialized y.cls ∈ GW) (w2 : Cond.methodLink own idx y ∈ GW) (w3 : Cond.instanceMethod y ∈ GW) (w4 : Cond.code y bytes maxL none ∈ GW) (hnm : y.name = "<init>")
    (hw2 : y.cls ≠ "java/lang/invoke/MethodHandle" ∧ y.cls ≠ "java/lang/invoke/VarHandle" ∧ (parseMethodDescriptor y.desc).map (fun d => d.parameters.length) = some na) (hmL : maxL ≤ 40) (hdg : decode cc pc = .ok (.invokespecial idx, 3))
    (hna : as.length = na) (hd : d' + 1 ≤ d) (hr : Nat.ble (catS st) 8 = true) (hnd : (noDl lo && noDs st) = true ∨ n' = n) (hst : stk = as.reverse ++ .inr (.inr i) :: st)
    (k : Here X cc own mL ret d nm (pc + 3) lo st I' P' O' D' n' Q) : Here X cc own mL ret d nm pc lo stk I P O D n Q := by
  obtain ⟨p, l, e, R, s, m, args, below, meth, co, Dg, cy, N0, n0, ad0, sv, hh⟩ := X
  have hnn := hM.1
  refine ⟨Nat.le_trans hnn k.1, fun C ad H locs ls hR => ?_⟩
  obtain ⟨hx, hb, hml, hret, hlocks, hown, hts, hK, hN, hfr, hlo, hce, hsl, htr, htb, hE⟩ := id C
  obtain ⟨hP, hD, hS, hl, hn0, had, hk0⟩ := id hR
  have hknm := k.1
  have hG : GoodIn GW (WS y bytes maxL none) := GoodGW (fun w hw => by
    rcases List.mem_cons.mp hw with rfl | h
    · exact w4
    · exact h)
  refine call_go (st := st) (v := none) (a := (Value.ref (ad i) :: as.map (cv ad)).toArray) hnn hR C hnd (va_runI (As := as.map (cv ad)) (rest := st.map (cv ad)) (b := ad i) ⟨hx, hb, hml, hown, hts⟩ (hM.2 l N0 Dg cy ad sv htr) (cwI na hts hG rfl rfl rfl (hts _ w1) (hts _ w2) (hts _ w3) hnm hw2 ⟨by show d' + 1 ≤ R.frames; omega, by show 8 + (maxL + 11) + 64 * d' ≤ R.locals; omega⟩) ⟨PcA.blind, fun U hU hW => PcA.at (as := .inr (.inr i) :: as) C hR U hU hW⟩ rfl (by rw [List.length_map]; exact hna) hl.1 ?_ (lv_room (by rw [catS_eq]; exact Nat.le_of_ble_eq_true hr)) hdg ⟨by omega, by omega⟩) k
  show stk.map (cv ad) = _
  rw [hst, List.map_append, List.map_reverse, List.map_cons]
  rfl
end NewD
theorem dX2_init_0 : decode cX2_init 0 = .ok (.aload_n 0, 1) := by decide +kernel
theorem dX2_init_1 : decode cX2_init 1 = .ok (.invokespecial 1, 3) := by decide +kernel
theorem dX2_init_4 : decode cX2_init 4 = .ok (.aload_n 0, 1) := by decide +kernel
theorem dX2_init_5 : decode cX2_init 5 = .ok (.iload_n 1, 1) := by decide +kernel
theorem dX2_init_6 : decode cX2_init 6 = .ok (.putfield 7, 3) := by decide +kernel
theorem dX2_init_9 : decode cX2_init 9 = .ok (.return_, 1) := by decide +kernel
theorem wo_X2_1 : Cond.methodLink RX2 1 objectInit ∈ GW := by decide +kernel
theorem wcl_X7_295 : Cond.classLink RX7 295 RX2 ∈ GW := by decide +kernel
theorem m_X2_init {I : Mem} {P : PMem} {O : Nat → Int64} {n : Nat} {x : Int32} : MethR yX2_init cX2_init 2 none 2 [.inr (.inr (2, 0, 0)), .inl x] I P O true n none (upd4 I 2 0 0 0 x) P O true n := meth_R (Nat.le_refl _) (by decide) rfl (Nat.le_of_ble_eq_true rfl) rfl (fun X Q E => by
  refine h_aload_n dX2_init_0 rfl ?_
  refine h_objInit wo_X2_1 (by decide) rfl dX2_init_1 ?_
  refine h_aload_n dX2_init_4 rfl ?_
  refine h_iload_n dX2_init_5 rfl ?_
  refine p_X2_7 rfl dX2_init_6 ?_
  exact h_vret dX2_init_9 rfl E)
section MkD
variable {X : CX} {cc : ByteArray} {mL : Nat} {ret : Option FieldType} {d nm pc : Nat} {lo : List (Option AV)} {st : List AV} {I : Mem} {P : PMem} {O : Nat → Int64} {D : Bool} {n : Nat} {Q : State → Prop}
/-- new; dup; iload_1; invokespecial -/
theorem h_mkD {x : Int32} (hl : nth none lo 1 = some (.inl x)) (hd : 2 + 1 ≤ d) (hr : Nat.ble (1 + catS st) 8 = true) (hnd : (noDl lo && noDs st) = true) (d0 : decode cc pc = .ok (.new 295, 3)) (d3 : decode cc (pc + 3) = .ok (.dup, 1)) (d4 : decode cc (pc + 4) = .ok (.iload_n 1, 1)) (d5 : decode cc (pc + 5) = .ok (.invokespecial 297, 3))
    (k : Here X cc RX7 mL ret d nm (pc + 8) lo (.inr (.inr (2, 0, 0)) :: st) (upd4 (upd4 I 2 0 0 0 0) 2 0 0 0 x) P O true (n + 1) Q) : Here X cc RX7 mL ret d nm pc lo st I P O D n Q := by
  refine h_new2 d0 wcl_X7_295 hnd ?_
  refine h_dup d3 (fun _ => rfl) ?_
  refine h_iload_n d4 hl ?_
  exact h_callI (na := 1) (as := [.inl x]) (st := .inr (.inr (2, 0, 0)) :: st) m_X2_init wN_X2 ml_X7_297 wI_X2_init wC_X2_init rfl (by decide +kernel) (by decide) d5 rfl hd hr (Or.inr rfl) rfl k
end MkD
