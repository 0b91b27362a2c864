/-! calls -/
def noDv : AV → Bool
  | .inr (.inr i) => !(Nat.beq i.1 2)
  | _ => true
def noDs : List AV → Bool
  | [] => true
  | v :: t => noDv v && noDs t
def noDl : List (Option AV) → Bool
  | [] => true
  | none :: t => noDl t
  | some v :: t => noDv v && noDl t
def cat : AV → Nat
  | .inr (.inl _) => 2
  | _ => 1
def catS : List AV → Nat
  | [] => 0
  | v :: t => cat v + catS t
theorem catS_eq (ad : Id3 → Nat) : ∀ st : List AV, ((st.map (cv ad)).map fun v => v.category).sum = catS st
  | [] => rfl
  | .inl x :: t => by
    have := catS_eq ad t
    simp only [List.map_cons, List.sum_cons, catS, this]; rfl
  | .inr (.inl x) :: t => by
    have := catS_eq ad t
    simp only [List.map_cons, List.sum_cons, catS, this]; rfl
  | .inr (.inr x) :: t => by
    have := catS_eq ad t
    simp only [List.map_cons, List.sum_cons, catS, this]; rfl
theorem cv_congr {ad ad' : Id3 → Nat} (h : ∀ i : Id3, i ≠ (2, 0, 0) → ad' i = ad i) {v : AV} (hv : noDv v = true) : cv ad' v = cv ad v := by
  match v, hv with
  | .inl x, _ => rfl
  | .inr (.inl x), _ => rfl
  | .inr (.inr i), hv =>
    simp only [cv]
    rw [h i]
    intro e
    subst e
    simp [noDv] at hv
theorem cvs_congr {ad ad' : Id3 → Nat} (h : ∀ i : Id3, i ≠ (2, 0, 0) → ad' i = ad i) : ∀ {st : List AV}, noDs st = true → st.map (cv ad') = st.map (cv ad)
  | [], _ => rfl
  | v :: t, hv => by
    simp only [noDs, Bool.and_eq_true] at hv
    rw [List.map_cons, List.map_cons, cv_congr h hv.1, cvs_congr h hv.2]
theorem lvl_congr {ad ad' : Id3 → Nat} (h : ∀ i : Id3, i ≠ (2, 0, 0) → ad' i = ad i) : ∀ {lo : List (Option AV)} (j : Nat), noDl lo = true → lvl ad' j lo = lvl ad j lo
  | [], _, _ => rfl
  | none :: t, j, hv => lvl_congr h (lo := t) (j + 1) hv
  | some v :: t, j, hv => by
    simp only [noDl, Bool.and_eq_true] at hv
    simp only [lvl]
    rw [cv_congr h hv.1, lvl_congr h (lo := t) (j + 1) hv.2]
/-- the words of a call of an object's own method -/
def CWV (own : String) (idx : Nat) (y : MethodName) (cc : ByteArray) (mL : Nat) (ret : Option FieldType) (c na : Nat) : Prop :=
  (∀ w ∈ wsV own idx y.cls y (WS y cc mL ret), w ∈ GW) ∧ (y.cls ≠ "java/lang/invoke/MethodHandle" ∧ y.cls ≠ "java/lang/invoke/VarHandle" ∧ (parseMethodDescriptor y.desc).map (fun d => d.parameters.length) = some na) ∧ (∃ T N, classes[c]? = some (y.cls, T, N)) ∧ cK c = 0 ∧ mL ≤ 40
def CWS (own : String) (idx : Nat) (y : MethodName) (cc : ByteArray) (mL : Nat) (ret : Option FieldType) (na : Nat) : Prop :=
  (∀ w ∈ va_wsS own idx y (WS y cc mL ret), w ∈ GW) ∧ (y.cls ≠ "java/lang/invoke/MethodHandle" ∧ y.cls ≠ "java/lang/invoke/VarHandle" ∧ (parseMethodDescriptor y.desc).map (fun d => d.parameters.length) = some na) ∧ mL ≤ 40
theorem CWV.mk {own : String} {idx : Nat} {y : MethodName} {cc : ByteArray} {mL : Nat} {ret : Option FieldType} {c na : Nat} {T : u_T} {N : Nat} (h1 : Cond.methodLink own idx y ∈ GW) (h2 : Cond.instanceMethod y ∈ GW) (h3 : Cond.selects y.cls y y ∈ GW) (h4 : Cond.initialized y.cls ∈ GW) (h5 : Cond.code y cc mL ret ∈ GW)
    (h6 : y.cls ≠ "java/lang/invoke/MethodHandle" ∧ y.cls ≠ "java/lang/invoke/VarHandle" ∧ (parseMethodDescriptor y.desc).map (fun d => d.parameters.length) = some na) (h7 : classes[c]? = some (y.cls, T, N)) (h8 : cK c = 0) (h9 : mL ≤ 40) : CWV own idx y cc mL ret c na := by
  refine ⟨fun w hw => ?_, h6, ⟨T, N, h7⟩, h8, h9⟩
  rcases List.mem_append.mp hw with h | h
  · simp only [List.mem_cons, List.not_mem_nil, or_false] at h
    rcases h with rfl | rfl | rfl | rfl
    · exact h1
    · exact h2
    · exact h3
    · exact h4
  · rcases List.mem_cons.mp h with rfl | h
    · exact h5
    · exact h
theorem CWS.mk {own : String} {idx : Nat} {y : MethodName} {cc : ByteArray} {mL : Nat} {ret : Option FieldType} {na : Nat} (h1 : Cond.methodLink own idx y ∈ GW) (h2 : Cond.static y ∈ GW) (h4 : Cond.initialized y.cls ∈ GW) (h5 : Cond.code y cc mL ret ∈ GW)
    (h6 : y.cls ≠ "java/lang/invoke/MethodHandle" ∧ y.cls ≠ "java/lang/invoke/VarHandle" ∧ (parseMethodDescriptor y.desc).map (fun d => d.parameters.length) = some na) (h9 : mL ≤ 40) : CWS own idx y cc mL ret na := by
  refine ⟨fun w hw => ?_, h6, h9⟩
  rcases List.mem_append.mp hw with h | h
  · simp only [List.mem_cons, List.not_mem_nil, or_false] at h
    rcases h with rfl | rfl | rfl
    · exact h1
    · exact h2
    · exact h4
  · rcases List.mem_cons.mp h with rfl | h
    · exact h5
    · exact h
theorem PcA.blind {N0 : Nat} {Dg : va_G} {cy : Nat → ClassId} {ad0 : Id3 → Nat} {sv : Nat → Nat} {as : List AV} {I : Mem} {P : PMem} {O : Nat → Int64} {D : Bool} : FrameBlind (PcA N0 Dg cy ad0 sv as I P O D) := by
  intro a U g mk q
  obtain ⟨q0, q1, qP, qK, qD, qE⟩ := q
  exact ⟨q0, q1, qP, va_K.moved (u := U) (U := U.calling g mk a) (Vm.Alike.refl U.vm) qK, qD, qE.calling g mk a⟩
section Calls2
variable {p : Program} {l : Launch} {e : Env} {R : Room} {s : State} {m : MethodId} {args : Array Value} {below : List Frame} {meth : Method} {co : Code} {Dg : va_G} {cy : Nat → ClassId} {N0 n0 : Nat} {ad0 : Id3 → Nat} {sv : Nat → Nat} {hh : List (Nat × Nat × Nat × Nat)}
variable {cc : ByteArray} {own : String} {mL : Nat} {ret : Option FieldType} {d nm pc : Nat} {lo : List (Option AV)} {st stk : List AV} {I I' : Mem} {P P' : PMem} {O O' : Nat → Int64} {D D' : Bool} {n n' : Nat} {Q : State → Prop}
theorem PcA.at {as : List AV} {ad : Id3 → Nat} {H : Heap} {locs : List Loc} {ls : Array Slot} (C : CxOK (p, l, e, R, s, m, args, below, meth, co, Dg, cy, N0, n0, ad0, sv, hh) cc own mL ret d nm) (hR : Rep (p, l, e, R, s, m, args, below, meth, co, Dg, cy, N0, n0, ad0, sv, hh) mL ad lo I P O D n H locs ls) (U : State) (hU : U.heap = H) (hW : s.WarmedH U.vm) : PcA N0 Dg cy ad sv as I P O D (as.map (cv ad)).toArray U := by
  obtain ⟨-, -, -, -, -, -, -, hK, hN, -, -, -, -, -, -, hE⟩ := C
  obtain ⟨hP, hD, hS, -, -, had, -⟩ := hR
  have e1 : (fun j => ad (90, j, 0)) = fun j => ad0 (90, j, 0) := funext fun j => had _ (by simp)
  have e2 : (fun j => ad (91, j, 0)) = fun j => ad0 (91, j, 0) := funext fun j => had _ (by simp)
  exact ⟨rfl, by rw [hU]; exact Nat.le_trans hN hS.1, by rw [hU]; exact hP, va_K.moved hW.alike hK, hD, by rw [e1, e2]; exact hE.at hS hU hW⟩
/-- behind a call that returned -/
theorem call_go {v : Option AV} {ad : Id3 → Nat} {H : Heap} {locs : List Loc} {ls : Array Slot} {a : Array Value} (hn : n ≤ n') (hR : Rep (p, l, e, R, s, m, args, below, meth, co, Dg, cy, N0, n0, ad0, sv, hh) mL ad lo I P O D n H locs ls) (C : CxOK (p, l, e, R, s, m, args, below, meth, co, Dg, cy, N0, n0, ad0, sv, hh) cc own mL ret d nm) (hnd : (noDl lo && noDs st) = true ∨ n' = n)
    (hr : va_Run p l e R s m args below meth co H locs (n - n0) (6 * (n - n0)) (n' - n) (6 * (n' - n)) (F0 m pc ls (stk.map (cv ad))) (st.map (cv ad)) (QcA N0 Dg cy ad (n' = n) v I' P' O' D' a) (AN N0))
    (k : Here (p, l, e, R, s, m, args, below, meth, co, Dg, cy, N0, n0, ad0, sv, hh) cc own mL ret d nm (pc + 3) lo (v.toList ++ st) I' P' O' D' n' Q) : W p l e R s m args below meth co H locs (n - n0) (6 * (n - n0)) Q (F0 m pc ls (stk.map (cv ad))) := by
  intro T hT X9
  obtain ⟨v9, st₀, t, T', L, h0, X', hL, e1, e2, ⟨ad', hv9, hP', hD', hF', had', hkeep⟩, go⟩ := hr T hT X9
  obtain ⟨hP, hD, hS, hl, hn0, had, hk0⟩ := hR
  have c1 : n - n0 + (n' - n) = n' - n0 := by omega
  have c2 : 6 * (n - n0) + 6 * (n' - n) = 6 * (n' - n0) := by omega
  rw [c1, c2] at X'
  cases hv9
  have hS' : va_S (AN N0) s.heap T'.heap (locs ++ L) := by
    rw [e1]
    refine ⟨Nat.le_trans hS.1 (by rw [← h0]; exact hF'.1), fun q h1 h2 => ?_, fun q hq => ?_⟩
    · rw [hF'.2 q (by rw [h0]; exact Nat.lt_of_lt_of_le h1 hS.1) h2, h0]
      exact hS.2.1 q h1 h2
    · rcases List.mem_append.mp hq with h | h
      · exact hS.2.2 q h
      · exact hL q h
  have hlv : lvl ad' 0 lo = lvl ad 0 lo ∧ st.map (cv ad') = st.map (cv ad) := by
    rcases hnd with h | h
    · simp only [Bool.and_eq_true] at h
      exact ⟨lvl_congr had' 0 h.1, cvs_congr had' h.2⟩
    · rw [hkeep h]
      exact ⟨rfl, rfl⟩
  have hW := k.2 C ad' T'.heap (locs ++ L) ls ⟨by rw [e1]; exact hP', hD', hS', by rw [hlv.1]; exact hl, Nat.le_trans hn0 hn, fun i hi => (had' i hi).trans (had i hi), fun h => by
    have q1 : n' = n := by omega
    rw [hkeep q1]
    exact hk0 (by omega)⟩
  have hst : (v.toList ++ st).map (cv ad') = (v.map (cv ad')).toList ++ st.map (cv ad) := by
    rw [List.map_append, hlv.2]
    cases v <;> rfl
  rw [hst] at hW
  obtain ⟨t2, a1, b1⟩ := hW T' rfl X'
  exact ⟨t2, go t2 a1, b1⟩
end Calls2
section Calls3
variable {X : CX} {cc : ByteArray} {own : String} {mL : Nat} {ret : Option FieldType} {d nm pc : Nat} {lo : List (Option AV)} {st stk : List AV} {I I' : Mem} {P P' : PMem} {O O' : Nat → Int64} {D D' : Bool} {n n' : Nat} {Q : State → Prop}
theorem h_callV {y : MethodName} {bytes : ByteArray} {maxL d' idx c z na : Nat} {rt : Option FieldType} {as : List AV} {v : Option AV} (hM : MethR y bytes maxL rt d' (.inr (.inr (c, z, 0)) :: as) I P O D n v I' P' O' D' n') (hw : CWV own idx y bytes maxL rt c na) (hdg : decode cc pc = .ok (.invokevirtual idx, 3))
    (hna : as.length = na) (ho : okI D c z 0 = true) (hd : d' + 1 ≤ d) (hr : Nat.ble (catS st) 8 = true) (hnd : (noDl lo && noDs st) = true ∨ n' = n) (hst : stk = as.reverse ++ .inr (.inr (c, z, 0)) :: st)
    (k : Here X cc own mL ret d nm (pc + 3) lo (v.toList ++ st) I' P' O' D' n' Q) : Here X cc own mL ret d nm pc lo stk I P O D n Q := by
  obtain ⟨p, l, e, R, s, m, args, below, meth, co, Dg, cy, N0, n0, ad0, sv, hh⟩ := X
  obtain ⟨hw1, hw2, ⟨T, N, hc⟩, hK0, hmL⟩ := hw
  have hnn := hM.1
  refine ⟨Nat.le_trans hnn k.1, fun C ad H locs ls hR => ?_⟩
  obtain ⟨hx, hb, hml, hret, hlocks, hown, hts, hK, hN, hfr, hlo, hce, hsl, htr, htb, hE⟩ := id C
  obtain ⟨hP, hD, hS, hl, hn0, had, hk0⟩ := id hR
  have hnm := k.1
  obtain ⟨q0, -, hq0⟩ := wsl_get (ad := ad) (cy := cy) (I := I) (P := P) (O := O) (mem_LST ho)
  rw [ce_obj hK0] at hq0
  refine call_go (a := (Value.ref (ad (c, z, 0)) :: as.map (cv ad)).toArray) hnn hR C hnd (va_runV (As := as.map (cv ad)) (rest := st.map (cv ad)) (b := ad (c, z, 0)) ⟨hx, hb, hml, hown, hts⟩ (hM.2 l N0 Dg cy ad sv htr) (cwV na hts (GoodGW hw1) rfl rfl rfl ⟨rfl, hw2⟩ ⟨by show d' + 1 ≤ R.frames; omega, by show 8 + (maxL + 11) + 64 * d' ≤ R.locals; omega⟩) ⟨PcA.blind, va_recv hK hP hc hq0, fun U hU hW => PcA.at (as := .inr (.inr (c, z, 0)) :: as) C hR U hU hW⟩ rfl (by rw [List.length_map]; exact hna) hl.1 ?_ (lv_room (by rw [catS_eq]; exact Nat.le_of_ble_eq_true hr)) hdg ⟨by omega, by omega⟩) k
  show stk.map (cv ad) = _
  rw [hst, List.map_append, List.map_reverse, List.map_cons]
  rfl
theorem h_callS {y : MethodName} {bytes : ByteArray} {maxL d' idx na : Nat} {rt : Option FieldType} {as : List AV} {v : Option AV} (hM : MethR y bytes maxL rt d' as I P O D n v I' P' O' D' n') (hw : CWS own idx y bytes maxL rt na) (hdg : decode cc pc = .ok (.invokestatic idx, 3))
    (hna : as.length = na) (hd : d' + 1 ≤ d) (hr : Nat.ble (catS st) 8 = true) (hnd : (noDl lo && noDs st) = true ∨ n' = n) (hst : stk = as.reverse ++ st)
    (k : Here X cc own mL ret d nm (pc + 3) lo (v.toList ++ st) I' P' O' D' n' Q) : Here X cc own mL ret d nm pc lo stk I P O D n Q := by
  obtain ⟨p, l, e, R, s, m, args, below, meth, co, Dg, cy, N0, n0, ad0, sv, hh⟩ := X
  obtain ⟨hw1, hw2, hmL⟩ := hw
  have hnn := hM.1
  refine ⟨Nat.le_trans hnn k.1, fun C ad H locs ls hR => ?_⟩
  obtain ⟨hx, hb, hml, hret, hlocks, hown, hts, hK, hN, hfr, hlo, hce, hsl, htr, htb, hE⟩ := id C
  obtain ⟨hP, hD, hS, hl, hn0, had, hk0⟩ := id hR
  have hnm := k.1
  refine call_go (a := (as.map (cv ad)).toArray) hnn hR C hnd (va_runS (As := as.map (cv ad)) (rest := st.map (cv ad)) ⟨hx, hb, hml, hown, hts⟩ (hM.2 l N0 Dg cy ad sv htr) (va_cwS na hts (GoodGW hw1) rfl rfl rfl hw2 ⟨by show d' + 1 ≤ R.frames; omega, by show 8 + (maxL + 11) + 64 * d' ≤ R.locals; omega⟩) ⟨PcA.blind, fun U hU hW => PcA.at C hR U hU hW⟩ rfl (by rw [List.length_map]; exact hna) hl.1 ?_ (lv_room (by rw [catS_eq]; exact Nat.le_of_ble_eq_true hr)) hdg ⟨by omega, by omega⟩) k
  show stk.map (cv ad) = _
  rw [hst, List.map_append, List.map_reverse]
end Calls3
