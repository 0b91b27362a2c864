/-! the law's helpers: a call, and what it throws caught -/
def WW (y : MethodName) (cc : ByteArray) (mL : Nat) (ret : Option FieldType) (hh : List (Nat × Nat × Nat × Nat)) : List Cond := .codeWith y cc mL ret hh :: GW
def MethW (y : MethodName) (cc : ByteArray) (mL : Nat) (ret : Option FieldType) (hh : List (Nat × Nat × Nat × Nat)) (d : Nat) (as : List AV) (I : Mem) (P : PMem) (O : Nat → Int64) (D : Bool) (n : Nat) (v : Option AV) (I' : Mem) (P' : PMem) (O' : Nat → Int64) (D' : Bool) (n' : Nat) : Prop :=
  n ≤ n' ∧ ∀ (l : Launch) (N0 : Nat) (Dg : va_G) (cy : Nat → ClassId) (ad0 : Id3 → Nat) (sv : Nat → Nat), l.stackTraces = false → Met l y (WW y cc mL ret hh) (rmd d (n' - n)) (PcA N0 Dg cy ad0 sv as I P O D) (QcA N0 Dg cy ad0 (n' = n) v I' P' O' D') (n' - n) (6 * (n' - n)) (AN N0)
def hhX (X : CX) : List (Nat × Nat × Nat × Nat) := match X with
  | (_, _, _, _, _, _, _, _, _, _, _, _, _, _, _, _, hh) => hh
section MethOfW
variable {y : MethodName} {cc : ByteArray} {own : String} {mL : Nat} {ret : Option FieldType} {hh : List (Nat × Nat × Nat × Nat)} {d n n' : Nat} {as : List AV} {lo : List (Option AV)} {I I' : Mem} {P P' : PMem} {O O' : Nat → Int64} {D D' : Bool}
theorem meth_W {v : Option AV} (hn : n ≤ n') (hy : plainName y.cls = true) (ho : y.cls = own) (hl : (entl as).length ≤ mL) (hlo : ent as mL = lo) (k : ∀ X Q, hhX X = hh → EndR X cc own mL ret d n' v I' P' O' D' Q → Here X cc own mL ret d n' 0 lo [] I P O D n Q) : MethW y cc mL ret hh d as I P O D n v I' P' O' D' n' := by
  subst hlo
  subst ho
  refine ⟨hn, fun l N0 Dg cy ad0 sv htr => ?_⟩
  refine va_MetW (cc := cc) (maxL := mL) (ret := ret) (hh := hh) hy rfl ?_
  intro p e s m args below meth c s₁ B hml hv
  obtain ⟨rfl, hsz, hP, hK, hD, hE⟩ := hv
  have hts := atoms_spec (ws := WW y cc mL ret hh) B.pre
  have hl1 := lv_entry (as.map (cv ad0)) (n := mL) (by rw [entl_len]; exact hl)
  rw [lg_entry_eq]
  generalize (lg_sl (as.map (cv ad0)) ++ List.replicate (mL - (lg_sl (as.map (cv ad0))).length) Slot.unset).toArray = ls at hl1 ⊢
  have hC : CxOK (p, l, e, (headSpec (WW y cc mL ret hh) (rmd d (n' - n))).room, s, m, (as.map (cv ad0)).toArray, below, meth, c, Dg, cy, N0, n, ad0, sv, hh) cc y.cls mL ret d n' :=
    ⟨B.exec, B.bytes, hml, B.returns, B.notSynchronized, findClass_of_methodNamed B.named, fun w hw => hts w (List.mem_cons_of_mem _ hw), hK, hsz, Nat.le_refl _, Nat.le_refl _, Nat.le_refl _, Nat.le_refl _, htr, vx_table (x := y) B (hts _ List.mem_cons_self), hE⟩
  have h0 := (k (p, l, e, (headSpec (WW y cc mL ret hh) (rmd d (n' - n))).room, s, m, (as.map (cv ad0)).toArray, below, meth, c, Dg, cy, N0, n, ad0, sv, hh) (MQ below (QcA N0 Dg cy ad0 (n' = n) v I' P' O' D') (as.map (cv ad0)).toArray s (n' - n) (6 * (n' - n)) (AN N0)) rfl ?_).2 hC ad0 s.heap [] ls ⟨hP, hD, va_S.rf, lvl_ent hl1, Nat.le_refl _, fun _ _ => rfl, fun _ => rfl⟩
  · rw [Nat.sub_self] at h0
    exact h0
  · intro _ ad H locs ls pc hR hdg hro
    obtain ⟨hP', hD', hS', -, hn0, had, hk'⟩ := hR
    have hlocks := B.notSynchronized
    match v, hdg, hro with
    | none, hdg, hro =>
      exact W.vret B.exec B.bytes (B.returns.trans hro) (fun t ht hW => ⟨ad, rfl, by rw [ht]; exact hP', hD', hS'.F ht, had, fun e => hk' e⟩) hS'.2.2 hdg
    | some (.inl x), hdg, hro =>
      obtain ⟨ty, hr, hnr⟩ := hro
      exact W.zret B.exec B.bytes (B.returns.trans hr) hnr (fun t ht hW => ⟨ad, rfl, by rw [ht]; exact hP', hD', hS'.F ht, had, fun e => hk' e⟩) hS'.2.2 hdg
    | some (.inr (.inr i)), hdg, hro =>
      obtain ⟨C, hr⟩ := hro
      exact W.aret B.exec B.bytes (B.returns.trans hr) (Or.inl ⟨C, rfl⟩) (Or.inr ⟨_, rfl⟩) (fun t ht hW => ⟨ad, rfl, by rw [ht]; exact hP', hD', hS'.F ht, had, fun e => hk' e⟩) hS'.2.2 hdg
end MethOfW
def CWW (own : String) (idx : Nat) (y : MethodName) (cc : ByteArray) (mL : Nat) (ret : Option FieldType) (hh : List (Nat × Nat × Nat × Nat)) (na : Nat) : Prop :=
  (∀ w ∈ va_wsS own idx y (WW y cc mL ret hh), w ∈ GW) ∧ (y.cls ≠ "java/lang/invoke/MethodHandle" ∧ y.cls ≠ "java/lang/invoke/VarHandle" ∧ (parseMethodDescriptor y.desc).map (fun d => d.parameters.length) = some na) ∧ mL ≤ 40
theorem CWW.mk {own : String} {idx : Nat} {y : MethodName} {cc : ByteArray} {mL : Nat} {ret : Option FieldType} {hh : List (Nat × Nat × Nat × Nat)} {na : Nat} (h1 : Cond.methodLink own idx y ∈ GW) (h2 : Cond.static y ∈ GW) (h4 : Cond.initialized y.cls ∈ GW) (h5 : Cond.codeWith y cc mL ret hh ∈ GW)
    (h6 : y.cls ≠ "java/lang/invoke/MethodHandle" ∧ y.cls ≠ "java/lang/invoke/VarHandle" ∧ (parseMethodDescriptor y.desc).map (fun d => d.parameters.length) = some na) (h9 : mL ≤ 40) : CWW own idx y cc mL ret hh na := by
  refine ⟨fun w hw => ?_, h6, h9⟩
  rcases List.mem_append.mp hw with h | h
  · simp only [List.mem_cons, List.not_mem_nil, or_false] at h
    rcases h with rfl | rfl | rfl
    · exact h1
    · exact h2
    · exact h4
  · rcases List.mem_cons.mp h with rfl | h
    · exact h5
    · exact h
/-- which row of a table takes it: the rows ahead name the other class -/
def Takes9 (own : String) (hh : List (Nat × Nat × Nat × Nat)) (pc ex hpc : Nat) : Prop := ∃ (pre : List ExceptionTableEntry) (x : ExceptionTableEntry) (suf : List ExceptionTableEntry), tableOf hh = pre ++ x :: suf ∧ (∀ z ∈ pre, z.catchType ≠ 0 ∧ ex = 0 ∧ Cond.classLink own z.catchType (exN 1) ∈ GW) ∧ covers x pc = true ∧ x.catchType ≠ 0 ∧ Cond.classLink own x.catchType (exN ex) ∈ GW ∧ x.handlerPc = hpc
section Helpers
variable {X : CX} {cc : ByteArray} {own : String} {mL : Nat} {ret : Option FieldType} {d nm pc : Nat} {lo : List (Option AV)} {st stk : List AV} {I I' : Mem} {P P' : PMem} {O O' : Nat → Int64} {D D' : Bool} {n n' : Nat} {Q : State → Prop}
theorem h_callSW {x : Int32} {y : MethodName} {bytes : ByteArray} {maxL d' idx na : Nat} {rt : Option FieldType} {hh' : List (Nat × Nat × Nat × Nat)} (as : List AV) (hM : MethW y bytes maxL rt hh' d' as I P O D n (some (.inl x)) I' P' O' D' n') (hw : CWW own idx y bytes maxL rt hh' na) (hdg : decode cc pc = .ok (.invokestatic idx, 3))
    (hna : as.length = na) (hd : d' + 1 ≤ d) (hr : Nat.ble (catS st) 8 = true) (hnd : (noDl lo && noDs st) = true ∨ n' = n) (hst : stk = as.reverse ++ st)
    (k : Here X cc own mL ret d nm (pc + 3) lo (.inl x :: st) I' P' O' D' n' Q) : Here X cc own mL ret d nm pc lo stk I P O D n Q := by
  obtain ⟨p, l, e, R, s, m, args, below, meth, co, Dg, cy, N0, n0, ad0, sv, hh⟩ := X
  obtain ⟨hw1, hw2, hmL⟩ := hw
  have hnn := hM.1
  refine ⟨Nat.le_trans hnn k.1, fun C ad H locs ls hR => ?_⟩
  obtain ⟨hx, hb, hml, hret, hlocks, hown, hts, hK, hN, hfr, hlo, hce, hsl, htr, htb, hE⟩ := id C
  obtain ⟨hP, hD, hS, hl, hn0, had, hk0⟩ := id hR
  have hnm := k.1
  refine call_go (st := st) (v := some (.inl x)) (a := (as.map (cv ad)).toArray) hnn hR C hnd (vx_runSW (As := as.map (cv ad)) (rest := st.map (cv ad)) ⟨hx, hb, hml, hown, hts⟩ (hM.2 l N0 Dg cy ad sv htr) (vx_cwSW na hts (GoodGW hw1) rfl rfl rfl hw2 ⟨by show d' + 1 ≤ R.frames; omega, by show 8 + (maxL + 11) + 64 * d' ≤ R.locals; omega⟩) ⟨PcA.blind, fun U hU hW => PcA.at C hR U hU hW⟩ rfl (by rw [List.length_map]; exact hna) hl.1 ?_ (lv_room (by rw [catS_eq]; exact Nat.le_of_ble_eq_true hr)) hdg ⟨by omega, by omega⟩) k
  show stk.map (cv ad) = _
  rw [hst, List.map_append, List.map_reverse]
/-- a call that throws, caught: astore; iconst; ireturn -/
theorem h_callC {y : MethodName} {bytes : ByteArray} {maxL d' idx c z na ex hpc : Nat} {rt : Option FieldType} {as : List AV} {hh' : List (Nat × Nat × Nat × Nat)} {kv : Int32} {cst : Int} (hX : hhX X = hh') (hM : MethX y bytes maxL rt d' (.inr (.inr (c, z, 0)) :: as) I P O D n ex I' P' O' D' n') (hw : CWV own idx y bytes maxL rt c na) (hdg : decode cc pc = .ok (.invokevirtual idx, 3))
    (hna : as.length = na) (ho : okI D c z 0 = true) (hd : d' + 1 ≤ d) (hr : Nat.ble (catS st) 8 = true) (hst : stk = as.reverse ++ .inr (.inr (c, z, 0)) :: st) (ht : Takes9 own hh' pc ex hpc) (hrt : ret = some .int)
    (q : Nat) (ln : Nat) (hq : q < mL) (d1 : (∃ f : Fin 4, (f : Nat) = q ∧ ln = 1 ∧ decode cc hpc = .ok (.astore_n f, 1)) ∨ (ln = 2 ∧ decode cc hpc = .ok (.astore q, 2))) (d2 : decode cc (hpc + ln) = .ok (.iconst cst, 1)) (hk : Int32.ofInt cst = kv) (d3 : decode cc (hpc + ln + 1) = .ok (.ireturn, 1))
    (E : EndR X cc own mL ret d n' (some (.inl kv)) I' P' O' D' Q) : Here X cc own mL ret d n' pc lo stk I P O D n Q := by
  obtain ⟨p, l, e, R, s, m, args, below, meth, co, Dg, cy, N0, n0, ad0, sv, hh⟩ := X
  have hX : hh = hh' := hX
  subst hX
  obtain ⟨hw1, hw2, ⟨T, N, hc⟩, hK0, hmL⟩ := hw
  have hnn := hM.1
  refine ⟨hnn, fun C ad H locs ls hR => ?_⟩
  obtain ⟨hx, hb, hml, hret, hlocks, hown, hts, hK, hN, hfr, hlo, hce, hsl, htr, htb, hE⟩ := id C
  obtain ⟨hP, hD, hS, hl, hn0, had, hk0⟩ := id hR
  obtain ⟨q0, -, hq0⟩ := wsl_get (ad := ad) (cy := cy) (I := I) (P := P) (O := O) (mem_LST ho)
  rw [ce_obj hK0] at hq0
  have hstk : (F0 m pc ls (stk.map (cv ad))).stack = (as.map (cv ad)).reverse ++ .ref (ad (c, z, 0)) :: st.map (cv ad) := by
    show stk.map (cv ad) = _
    rw [hst, List.map_append, List.map_reverse, List.map_cons]
    rfl
  have hrun := vx_runV (As := as.map (cv ad)) (rest := st.map (cv ad)) (b := ad (c, z, 0)) (g := F0 m pc ls (stk.map (cv ad))) (H := H) (locs := locs) (cells := n - n0) (slots := 6 * (n - n0)) (e := e) (below := below) (meth := meth) (R := R) ⟨hx, hb, hml, hown, hts⟩ (hM.2 l N0 Dg cy ad sv htr) (cwV na hts (GoodGW hw1) rfl rfl rfl ⟨rfl, hw2⟩ ⟨by show d' + 1 ≤ R.frames; omega, by show 8 + (maxL + 11) + 64 * d' ≤ R.locals; omega⟩) ⟨PcA.blind, va_recv hK hP hc hq0, fun U hU hW => PcA.at (as := .inr (.inr (c, z, 0)) :: as) C hR U hU hW⟩ rfl (by rw [List.length_map]; exact hna) hl.1 hstk (lv_room (by rw [catS_eq]; exact Nat.le_of_ble_eq_true hr)) hdg ⟨by omega, by omega⟩
  intro T9 hT X9
  rcases hrun T9 hT X9 with ⟨_, _, _, _, _, _, _, _, _, _, hF, _⟩ | ⟨qa, st₀, t, T', L, E9, ce9, h0, X', hL, e1, e2, ⟨hE9, ad', hP', hD', hF', had', hkeep⟩, hqc, hcv, hcl, go⟩
  · exact hF.elim
  · subst hE9
    have c1 : n - n0 + (n' - n) = n' - n0 := by omega
    have c2 : 6 * (n - n0) + 6 * (n' - n) = 6 * (n' - n0) := by omega
    rw [c1, c2] at X'
    have hS' : va_S (AN N0) s.heap T'.heap (locs ++ L) := by
      rw [e1]
      refine ⟨Nat.le_trans hS.1 (by rw [← h0]; exact hF'.1), fun q h1 h2 => ?_, fun q hq => ?_⟩
      · rw [hF'.2 q (by rw [h0]; exact Nat.lt_of_lt_of_le h1 hS.1) h2, h0]
        exact hS.2.1 q h1 h2
      · rcases List.mem_append.mp hq with h | h
        · exact hS.2.2 q h
        · exact hL q h
    have hend : ∀ ls' : Array Slot, ls'.size = mL → lv_wf ls' → W p l e R s m args below meth co T'.heap (locs ++ L) (n' - n0) (6 * (n' - n0)) Q (F0 m (hpc + ln) ls' []) := by
      intro ls' hsz hwf
      refine lv_iconst hx hb d2 hk ?_
      refine E C ad' T'.heap (locs ++ L) ls' (hpc + ln + 1) ⟨by rw [e1]; exact hP', hD', hS', ⟨hsz, hwf, fun q h => by simp [lvl] at h⟩, by omega, fun i hi => (had' i hi).trans (had i hi), fun h => ?_⟩ d3 ⟨.int, hrt, rfl⟩
      have q1 : n' = n := by omega
      rw [hkeep q1]
      exact hk0 (by omega)
    have hhand : W p l e R s m args below meth co T'.heap (locs ++ L) (n' - n0) (6 * (n' - n0)) Q (F0 m hpc ls [.ref qa]) := by
      rcases d1 with ⟨f, hf, rfl, hd1⟩ | ⟨rfl, hd1⟩
      · exact lv_astore_n hx hb hd1 hf hl hq rfl (fun ls' hl' => hend ls' hl'.1 hl'.2.1)
      · exact lv_astore hx hb hd1 hl hq rfl (fun ls' hl' => hend ls' hl'.1 hl'.2.1)
    obtain ⟨pre, x, suf, hsp, hpass, hcov, hx0, hlk, rfl⟩ := ht
    have hout : vx_W p l e R s m args below meth co T'.heap (locs ++ L) (n' - n0) (6 * (n' - n0)) Q (F0 m pc ls (st.map (cv ad))) qa := by
      refine vx_catch (E := exN ex) (name := exN ex) (ce := ce9) hown pre x suf (by rw [htb]; exact hsp) ?_ hcov hx0 (hts _ hlk) (va_Nw.use rfl (hE.2.2.2.2.2.2.1 ex)) (by rw [e1]; exact hqc) hcv hcl hhand
      intro z hz
      obtain ⟨z1, z2, z3⟩ := hpass z hz
      subst z2
      exact Or.inr ⟨z1, exN 1, hts _ z3, hE.2.2.2.2.2.2.2.2⟩
    obtain ⟨t2, a1, b1⟩ := hout T' rfl X'
    exact ⟨t2, go.trans a1, b1⟩
end Helpers
theorem wl_13 : Cond.classLink RL 13 (exN 0) ∈ GW := GW_at 506 (by decide +kernel) (by decide +kernel)
theorem wl_18 : Cond.classLink RL 18 (exN 1) ∈ GW := GW_at 792 (by decide +kernel) (by decide +kernel)
