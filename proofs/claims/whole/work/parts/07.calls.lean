/-! ends of a method, its contract, calls -/
def WS (y : MethodName) (cc : ByteArray) (mL : Nat) (ret : Option FieldType) : List Cond := .code y cc mL ret :: GW
def rmd (d k : Nat) : Room := { frames := d, cells := k, slots := 6 * k, locals := 64 * d }
def PcA (N0 : Nat) (Dg : va_G) (cy : Nat → ClassId) (ad0 : Id3 → Nat) (sv : Nat → Nat) (as : List AV) (I : Mem) (P : PMem) (O : Nat → Int64) (D : Bool) : Array Value → State → Prop := va_Pc (as.map (cv ad0)) (fun U => N0 ≤ U.heap.size ∧ va_P Dg classes (wsl ad0 cy I P O D) U.heap ∧ va_K Dg classes (tys cy) U ∧ va_D (AN N0) (wsl ad0 cy I P O D) ∧ Ext U N0 (fun j => ad0 (90, j, 0)) (fun j => ad0 (91, j, 0)))
def EnA (N0 : Nat) (Dg : va_G) (cy : Nat → ClassId) (ad0 ad : Id3 → Nat) (keep : Prop) (I : Mem) (P : PMem) (O : Nat → Int64) (D : Bool) (st t : State) : Prop := va_P Dg classes (wsl ad cy I P O D) t.heap ∧ va_D (AN N0) (wsl ad cy I P O D) ∧ va_F (AN N0) st t ∧ (∀ i : Id3, i ≠ (2, 0, 0) → ad i = ad0 i) ∧ (keep → ad = ad0)
def QcA (N0 : Nat) (Dg : va_G) (cy : Nat → ClassId) (ad0 : Id3 → Nat) (keep : Prop) (v : Option AV) (I : Mem) (P : PMem) (O : Nat → Int64) (D : Bool) : Array Value → State → Outcome → State → Prop := fun _ st oc t => ∃ ad : Id3 → Nat, oc = .returned (v.map (cv ad)) ∧ EnA N0 Dg cy ad0 ad keep I P O D st t
def XcA (N0 : Nat) (Dg : va_G) (cy : Nat → ClassId) (ad0 : Id3 → Nat) (keep : Prop) (ex : Nat) (I : Mem) (P : PMem) (O : Nat → Int64) (D : Bool) : String → State → State → Prop := fun E st t => E = exN ex ∧ ∃ ad : Id3 → Nat, EnA N0 Dg cy ad0 ad keep I P O D st t
/-- the method, called so, returns v -/
def MethR (y : MethodName) (cc : ByteArray) (mL : Nat) (ret : Option FieldType) (d : Nat) (as : List AV) (I : Mem) (P : PMem) (O : Nat → Int64) (D : Bool) (n : Nat) (v : Option AV) (I' : Mem) (P' : PMem) (O' : Nat → Int64) (D' : Bool) (n' : Nat) : Prop :=
  n ≤ n' ∧ ∀ (l : Launch) (N0 : Nat) (Dg : va_G) (cy : Nat → ClassId) (ad0 : Id3 → Nat) (sv : Nat → Nat), l.stackTraces = false → Met l y (WS y cc mL ret) (rmd d (n' - n)) (PcA N0 Dg cy ad0 sv as I P O D) (QcA N0 Dg cy ad0 (n' = n) v I' P' O' D') (n' - n) (6 * (n' - n)) (AN N0)
/-- .. throws -/
def MethX (y : MethodName) (cc : ByteArray) (mL : Nat) (ret : Option FieldType) (d : Nat) (as : List AV) (I : Mem) (P : PMem) (O : Nat → Int64) (D : Bool) (n : Nat) (ex : Nat) (I' : Mem) (P' : PMem) (O' : Nat → Int64) (D' : Bool) (n' : Nat) : Prop :=
  n ≤ n' ∧ ∀ (l : Launch) (N0 : Nat) (Dg : va_G) (cy : Nat → ClassId) (ad0 : Id3 → Nat) (sv : Nat → Nat), l.stackTraces = false → vx_Met l y (WS y cc mL ret) (rmd d (n' - n)) (PcA N0 Dg cy ad0 sv as I P O D) (fun _ _ _ _ => False) (XcA N0 Dg cy ad0 (n' = n) ex I' P' O' D') (n' - n) (6 * (n' - n)) (AN N0)
def retI : Option AV → Instr
  | none => .return_
  | some (.inl _) => .ireturn
  | some (.inr (.inl _)) => .lreturn
  | some (.inr (.inr _)) => .areturn
def retOK (ret : Option FieldType) : Option AV → Prop
  | none => ret = none
  | some (.inl x) => ∃ ty, ret = some ty ∧ narrow ty (.int x) = .int x
  | some (.inr (.inl _)) => False
  | some (.inr (.inr _)) => ∃ C, ret = some (.object C)
def EndR (X : CX) (cc : ByteArray) (own : String) (mL : Nat) (ret : Option FieldType) (d nm : Nat) (v : Option AV) (I : Mem) (P : PMem) (O : Nat → Int64) (D : Bool) (Q : State → Prop) : Prop := CxOK X cc own mL ret d nm → match X with
  | (p, l, e, R, s, m, args, below, meth, c, _, _, _, n0, _, _, _) => ∀ (ad : Id3 → Nat) (H : Heap) (locs : List Loc) (ls : Array Slot) (pc : Nat), Rep X mL ad [] I P O D nm H locs ls → decode cc pc = .ok (retI v, 1) → retOK ret v → W p l e R s m args below meth c H locs (nm - n0) (6 * (nm - n0)) Q (F0 m pc ls ((v.map (cv ad)).toList))
def EndX (X : CX) (cc : ByteArray) (own : String) (mL : Nat) (ret : Option FieldType) (d nm : Nat) (ex : Nat) (I : Mem) (P : PMem) (O : Nat → Int64) (D : Bool) (Q : State → Prop) : Prop := CxOK X cc own mL ret d nm → match X with
  | (_, _, _, _, s, _, args, below, _, _, Dg, cy, N0, n0, ad0, _, hh) => hh = [] ∧ ∃ (Qc : Array Value → State → Outcome → State → Prop) (XC : String → State → State → Prop), Q = vx_MQ below Qc XC args s (nm - n0) (6 * (nm - n0)) (AN N0) ∧ ∀ (ad : Id3 → Nat) (t : State), EnA N0 Dg cy ad0 ad (nm = n0) I P O D s t → XC (exN ex) s t
abbrev Out : Type := Option AV ⊕ Nat
def End (X : CX) (cc : ByteArray) (own : String) (mL : Nat) (ret : Option FieldType) (d nm : Nat) (o : Out) (I : Mem) (P : PMem) (O : Nat → Int64) (D : Bool) (Q : State → Prop) : Prop := match o with
  | .inl v => EndR X cc own mL ret d nm v I P O D Q
  | .inr ex => EndX X cc own mL ret d nm ex I P O D Q
def Meth (y : MethodName) (cc : ByteArray) (mL : Nat) (ret : Option FieldType) (d : Nat) (as : List AV) (I : Mem) (P : PMem) (O : Nat → Int64) (D : Bool) (n : Nat) (o : Out) (I' : Mem) (P' : PMem) (O' : Nat → Int64) (D' : Bool) (n' : Nat) : Prop := match o with
  | .inl v => MethR y cc mL ret d as I P O D n v I' P' O' D' n'
  | .inr ex => MethX y cc mL ret d as I P O D n ex I' P' O' D' n'
def entl : List AV → List (Option AV)
  | [] => []
  | .inr (.inl y) :: t => some (.inr (.inl y)) :: none :: entl t
  | .inl x :: t => some (.inl x) :: entl t
  | .inr (.inr i) :: t => some (.inr (.inr i)) :: entl t
def ent (as : List AV) (mL : Nat) : List (Option AV) := entl as ++ List.replicate (mL - (entl as).length) none
theorem nth_app_none {l : List (Option AV)} : ∀ (k i : Nat) (v : AV), nth none (l ++ List.replicate k none) i = some v → nth none l i = some v := by
  induction l with
  | nil =>
    intro k
    induction k with
    | zero => intro i v h; simp [nth] at h
    | succ k ih =>
      intro i v h
      cases i with
      | zero => simp [List.replicate_succ, nth] at h
      | succ i => exact ih i v (by simpa [List.replicate_succ, nth] using h)
  | cons a t ih =>
    intro k i v h
    cases i with
    | zero => exact h
    | succ i => exact ih k i v h
theorem entl_args (ad : Id3 → Nat) : ∀ (as : List AV) (j i : Nat) (v : AV), nth none (entl as) i = some v → (j + i, cv ad v) ∈ lv_args j (as.map (cv ad))
  | [], j, i, v, h => by simp [entl, nth] at h
  | .inl x :: t, j, 0, v, h => by
    simp [entl, nth] at h; subst h
    simp [lv_args]
  | .inl x :: t, j, i + 1, v, h => by
    have := entl_args ad t (j + 1) i v h
    rw [show j + (i + 1) = j + 1 + i by omega]
    exact List.mem_cons_of_mem _ this
  | .inr (.inr x) :: t, j, 0, v, h => by
    simp [entl, nth] at h; subst h
    simp [lv_args]
  | .inr (.inr x) :: t, j, i + 1, v, h => by
    have := entl_args ad t (j + 1) i v h
    rw [show j + (i + 1) = j + 1 + i by omega]
    exact List.mem_cons_of_mem _ this
  | .inr (.inl x) :: t, j, 0, v, h => by
    simp [entl, nth] at h; subst h
    simp [lv_args]
  | .inr (.inl x) :: t, j, 1, v, h => by simp [entl, nth] at h
  | .inr (.inl x) :: t, j, i + 2, v, h => by
    have := entl_args ad t (j + 2) i v h
    rw [show j + (i + 2) = j + 2 + i by omega]
    exact List.mem_cons_of_mem _ this
theorem entl_len (ad : Id3 → Nat) : ∀ as : List AV, (lg_sl (as.map (cv ad))).length = (entl as).length
  | [] => rfl
  | .inl x :: t => by
    rw [show lg_sl ((Sum.inl x :: t).map (cv ad)) = [Slot.val (.int x)] ++ lg_sl (t.map (cv ad)) from rfl, List.length_append, entl_len ad t]
    simp [entl]; omega
  | .inr (.inr x) :: t => by
    rw [show lg_sl ((Sum.inr (Sum.inr x) :: t).map (cv ad)) = [Slot.val (.ref (ad x))] ++ lg_sl (t.map (cv ad)) from rfl, List.length_append, entl_len ad t]
    simp [entl]; omega
  | .inr (.inl x) :: t => by
    rw [show lg_sl ((Sum.inr (Sum.inl x) :: t).map (cv ad)) = [Slot.val (.long x), Slot.second] ++ lg_sl (t.map (cv ad)) from rfl, List.length_append, entl_len ad t]
    simp [entl]; omega
theorem GoodGW {l : List Cond} (h : ∀ w ∈ l, w ∈ GW) : GoodIn GW l := fun w hw => ⟨h w hw, good_of_word (List.mem_filter.mp (h w hw)).2⟩
theorem tbl_nil {y : MethodName} {S : Spec} {cc : ByteArray} {maxL : Nat} {ret : Option FieldType} {p : Program} {l : Launch} {e : Env} {s s₁ : State} {m : MethodId} {args : Array Value} {below : List Frame} {meth : Method} {c : Code} (B : BodyLoose p l y S cc maxL ret e s m args below meth c s₁) (h : (Cond.code y cc maxL ret).before args s = true) : c.exceptionTable.toList = tableOf [] := by
  obtain ⟨meth9, c9, h1, h2, -, -, -, -, h7, -⟩ := Cond.code_spec B.named h
  cases Option.some.inj (h1.symm.trans B.method)
  cases Option.some.inj (h2.symm.trans (Stand.of_body B).code)
  rw [Array.isEmpty_iff.mp h7]
  rfl
section MethOf
variable {y : MethodName} {cc : ByteArray} {own : String} {mL : Nat} {ret : Option FieldType} {d n n' : Nat} {as : List AV} {lo : List (Option AV)} {I I' : Mem} {P P' : PMem} {O O' : Nat → Int64} {D D' : Bool}
theorem lvl_ent {ad : Id3 → Nat} {ls : Array Slot} (h : lv_has ls mL (lv_args 0 (as.map (cv ad)))) : lv_has ls mL (lvl ad 0 (ent as mL)) := by
  refine lv_mono h (fun q hq => ?_)
  obtain ⟨j, w, h1, h2⟩ := lvl_of ad _ _ _ hq
  rw [h1]
  exact entl_args ad as 0 j w (nth_app_none _ _ _ h2)
theorem meth_R {v : Option AV} (hn : n ≤ n') (hy : plainName y.cls = true) (ho : y.cls = own) (hl : (entl as).length ≤ mL) (hlo : ent as mL = lo) (k : ∀ X Q, EndR X cc own mL ret d n' v I' P' O' D' Q → Here X cc own mL ret d n' 0 lo [] I P O D n Q) : MethR y cc mL ret d as I P O D n v I' P' O' D' n' := by
  subst hlo
  subst ho
  refine ⟨hn, fun l N0 Dg cy ad0 sv htr => ?_⟩
  refine Met.ofW (cc := cc) (maxL := mL) (ret := ret) hy rfl ?_
  intro p e s m args below meth c s₁ B hml hv
  obtain ⟨rfl, hsz, hP, hK, hD, hE⟩ := hv
  have hts := atoms_spec (ws := WS y cc mL ret) B.pre
  have hl1 := lv_entry (as.map (cv ad0)) (n := mL) (by rw [entl_len]; exact hl)
  rw [lg_entry_eq]
  generalize (lg_sl (as.map (cv ad0)) ++ List.replicate (mL - (lg_sl (as.map (cv ad0))).length) Slot.unset).toArray = ls at hl1 ⊢
  have hC : CxOK (p, l, e, (headSpec (WS y cc mL ret) (rmd d (n' - n))).room, s, m, (as.map (cv ad0)).toArray, below, meth, c, Dg, cy, N0, n, ad0, sv, []) cc y.cls mL ret d n' :=
    ⟨B.exec, B.bytes, hml, B.returns, B.notSynchronized, findClass_of_methodNamed B.named, fun w hw => hts w (List.mem_cons_of_mem _ hw), hK, hsz, Nat.le_refl _, Nat.le_refl _, Nat.le_refl _, Nat.le_refl _, htr, tbl_nil B (hts _ List.mem_cons_self), hE⟩
  have h0 := (k (p, l, e, (headSpec (WS y cc mL ret) (rmd d (n' - n))).room, s, m, (as.map (cv ad0)).toArray, below, meth, c, Dg, cy, N0, n, ad0, sv, []) (MQ below (QcA N0 Dg cy ad0 (n' = n) v I' P' O' D') (as.map (cv ad0)).toArray s (n' - n) (6 * (n' - n)) (AN N0)) ?_).2 hC ad0 s.heap [] ls ⟨hP, hD, va_S.rf, lvl_ent hl1, Nat.le_refl _, fun _ _ => rfl, fun _ => rfl⟩
  · rw [Nat.sub_self] at h0
    exact h0
  · intro _ ad H locs ls pc hR hdg hro
    obtain ⟨hP', hD', hS', -, hn0, had, hk'⟩ := hR
    have hlocks := B.notSynchronized
    match v, hdg, hro with
    | none, hdg, hro =>
      exact W.vret B.exec B.bytes (B.returns.trans hro) (fun t ht hW => ⟨ad, rfl, by rw [ht]; exact hP', hD', hS'.F ht, had, fun e => hk' e⟩) hS'.2.2 hdg
    | some (.inl x), hdg, hro =>
      obtain ⟨ty, hr, hnr⟩ := hro
      exact W.zret B.exec B.bytes (B.returns.trans hr) hnr (fun t ht hW => ⟨ad, rfl, by rw [ht]; exact hP', hD', hS'.F ht, had, fun e => hk' e⟩) hS'.2.2 hdg
    | some (.inr (.inr i)), hdg, hro =>
      obtain ⟨C, hr⟩ := hro
      exact W.aret B.exec B.bytes (B.returns.trans hr) (Or.inl ⟨C, rfl⟩) (Or.inr ⟨_, rfl⟩) (fun t ht hW => ⟨ad, rfl, by rw [ht]; exact hP', hD', hS'.F ht, had, fun e => hk' e⟩) hS'.2.2 hdg
theorem meth_X {ex : Nat} (hn : n ≤ n') (hy : plainName y.cls = true) (ho : y.cls = own) (hl : (entl as).length ≤ mL) (hlo : ent as mL = lo) (k : ∀ X Q, EndX X cc own mL ret d n' ex I' P' O' D' Q → Here X cc own mL ret d n' 0 lo [] I P O D n Q) : MethX y cc mL ret d as I P O D n ex I' P' O' D' n' := by
  subst hlo
  subst ho
  refine ⟨hn, fun l N0 Dg cy ad0 sv htr => ?_⟩
  refine vx_ofW (cc := cc) (maxL := mL) (ret := ret) hy rfl ?_
  intro p e s m args below meth c s₁ B hml _ hv
  obtain ⟨rfl, hsz, hP, hK, hD, hE⟩ := hv
  have hts := atoms_spec (ws := WS y cc mL ret) B.pre
  have hl1 := lv_entry (as.map (cv ad0)) (n := mL) (by rw [entl_len]; exact hl)
  rw [lg_entry_eq]
  generalize (lg_sl (as.map (cv ad0)) ++ List.replicate (mL - (lg_sl (as.map (cv ad0))).length) Slot.unset).toArray = ls at hl1 ⊢
  have hC : CxOK (p, l, e, (headSpec (WS y cc mL ret) (rmd d (n' - n))).room, s, m, (as.map (cv ad0)).toArray, below, meth, c, Dg, cy, N0, n, ad0, sv, []) cc y.cls mL ret d n' :=
    ⟨B.exec, B.bytes, hml, B.returns, B.notSynchronized, findClass_of_methodNamed B.named, fun w hw => hts w (List.mem_cons_of_mem _ hw), hK, hsz, Nat.le_refl _, Nat.le_refl _, Nat.le_refl _, Nat.le_refl _, htr, tbl_nil B (hts _ List.mem_cons_self), hE⟩
  have h0 := (k (p, l, e, (headSpec (WS y cc mL ret) (rmd d (n' - n))).room, s, m, (as.map (cv ad0)).toArray, below, meth, c, Dg, cy, N0, n, ad0, sv, []) (vx_MQ below (fun _ _ _ _ => False) (XcA N0 Dg cy ad0 (n' = n) ex I' P' O' D') (as.map (cv ad0)).toArray s (n' - n) (6 * (n' - n)) (AN N0)) ?_).2 hC ad0 s.heap [] ls ⟨hP, hD, va_S.rf, lvl_ent hl1, Nat.le_refl _, fun _ _ => rfl, fun _ => rfl⟩
  · rw [Nat.sub_self] at h0
    exact h0
  · intro _
    exact ⟨rfl, _, _, rfl, fun ad t h => ⟨rfl, ad, h⟩⟩
end MethOf
section Calls1
variable {X : CX} {cc : ByteArray} {own : String} {mL : Nat} {ret : Option FieldType} {d nm pc : Nat} {lo : List (Option AV)} {st : List AV} {I I' : Mem} {P P' : PMem} {O O' : Nat → Int64} {D D' : Bool} {n n' : Nat} {Q : State → Prop}
theorem h_iret {x : Int32} (hdg : decode cc pc = .ok (.ireturn, 1)) (hr : ret = some .int) (E : EndR X cc own mL ret d n (some (.inl x)) I P O D Q) : Here X cc own mL ret d n pc lo [.inl x] I P O D n Q := by
  obtain ⟨p, l, e, R, s, m, args, below, meth, co, Dg, cy, N0, n0, ad0, sv, hh⟩ := X
  refine ⟨Nat.le_refl _, fun C ad H locs ls hR => E C ad H locs ls pc ⟨hR.1, hR.2.1, hR.2.2.1, lv_mono hR.2.2.2.1 (fun q h => by simp [lvl] at h), hR.2.2.2.2⟩ hdg ⟨.int, hr, rfl⟩⟩
theorem h_zret {x : Int32} (hdg : decode cc pc = .ok (.ireturn, 1)) (hr : ret = some .boolean) (hx : (x == 0 || x == 1) = true) (E : EndR X cc own mL ret d n (some (.inl x)) I P O D Q) : Here X cc own mL ret d n pc lo [.inl x] I P O D n Q := by
  obtain ⟨p, l, e, R, s, m, args, below, meth, co, Dg, cy, N0, n0, ad0, sv, hh⟩ := X
  have hx : x = 0 ∨ x = 1 := by simpa using hx
  refine ⟨Nat.le_refl _, fun C ad H locs ls hR => E C ad H locs ls pc ⟨hR.1, hR.2.1, hR.2.2.1, lv_mono hR.2.2.2.1 (fun q h => by simp [lvl] at h), hR.2.2.2.2⟩ hdg ⟨.boolean, hr, by rcases hx with rfl | rfl <;> rfl⟩⟩
theorem h_vret (hdg : decode cc pc = .ok (.return_, 1)) (hr : ret = none) (E : EndR X cc own mL ret d n none I P O D Q) : Here X cc own mL ret d n pc lo [] I P O D n Q := by
  obtain ⟨p, l, e, R, s, m, args, below, meth, co, Dg, cy, N0, n0, ad0, sv, hh⟩ := X
  refine ⟨Nat.le_refl _, fun C ad H locs ls hR => E C ad H locs ls pc ⟨hR.1, hR.2.1, hR.2.2.1, lv_mono hR.2.2.2.1 (fun q h => by simp [lvl] at h), hR.2.2.2.2⟩ hdg hr⟩
theorem h_aret {i : Id3} (hdg : decode cc pc = .ok (.areturn, 1)) (C0 : String) (hr : ret = some (.object C0)) (E : EndR X cc own mL ret d n (some (.inr (.inr i))) I P O D Q) : Here X cc own mL ret d n pc lo [.inr (.inr i)] I P O D n Q := by
  obtain ⟨p, l, e, R, s, m, args, below, meth, co, Dg, cy, N0, n0, ad0, sv, hh⟩ := X
  refine ⟨Nat.le_refl _, fun C ad H locs ls hR => E C ad H locs ls pc ⟨hR.1, hR.2.1, hR.2.2.1, lv_mono hR.2.2.2.1 (fun q h => by simp [lvl] at h), hR.2.2.2.2⟩ hdg ⟨C0, hr⟩⟩
end Calls1
