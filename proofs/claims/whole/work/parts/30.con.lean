/-! constructors: the world is a list, its head any list, its tail what is made -/
theorem va_AOA.spec {t : FieldType} {s : State} (h : va_AOA t s) : ∃ comp c k, s.vm.findClass (FieldType.array t).toString = some comp ∧ (s.vm.classes.findIdx? fun x => match x.kind with | .array component _ => component == comp | _ => false) = some c ∧ s.vm.classes[c]? = some k ∧ k.kind = .array comp (.array t) ∧ s.vm.findClass ("[" ++ (FieldType.array t).toString) = some c := by
  unfold va_AOA Cond.before at h
  simp only [Cond.holds, Cond.value, beq_iff_eq] at h
  cases hc : s.vm.findClass (FieldType.array t).toString with
  | none => simp [hc] at h
  | some comp =>
    simp only [hc, Option.bind_some, Option.bind_eq_some_iff, Option.map_eq_some_iff] at h
    obtain ⟨c, hi, k, hk, hb⟩ := h
    obtain ⟨hlt, hp, -⟩ := Array.findIdx?_eq_some_iff_getElem.mp hi
    have hkk : s.vm.classes[c] = k := (Array.getElem?_eq_some_iff.mp hk).2
    rw [hkk] at hp
    cases hkind : k.kind with
    | array component ty =>
      rw [hkind] at hb hp
      simp at hb hp
      exact ⟨comp, c, k, rfl, hi, hk, by rw [hkind, hp, hb.1], hb.2⟩
    | _ => rw [hkind] at hb; simp at hb
theorem va_AOA.moved {t : FieldType} {u U : State} (hvm : u.vm.Alike U.vm) (h : va_AOA t u) : va_AOA t U := by
  obtain ⟨comp, c, k, h1, h2, h3, h4, h5⟩ := h.spec
  obtain ⟨k', hk', he⟩ := hvm.2.2 _ _ h3
  have hi : (U.vm.classes.findIdx? fun (x : Class) => match x.kind with | .array component _ => component == comp | _ => false) = some c := by
    have e1 := va_idx_bare U.vm comp
    have e2 := va_idx_bare u.vm comp
    have eb : U.vm.bare = u.vm.bare := by first | exact hvm.bare_eq | exact hvm.bare_eq.symm
    rw [eb] at e1
    exact e1.symm.trans (e2.trans h2)
  have hkind : k'.kind = .array comp (.array t) := by rw [he]; exact h4
  have f1 : U.vm.findClass (FieldType.array t).toString = some comp := by rw [hvm.findClass]; exact h1
  have f2 : U.vm.findClass ("[" ++ (FieldType.array t).toString) = some c := by rw [hvm.findClass]; exact h5
  unfold va_AOA Cond.before
  simp only [Cond.holds, Cond.value, f1, Option.bind_some, beq_iff_eq]
  rw [Option.bind_eq_some_iff]
  refine ⟨c, hi, ?_⟩
  simp [hk', hkind, f2]
def NestX (U : State) : Prop := va_Nw (.methodLinkNest RX7 15 yX3_init RX7) U ∧ va_Nw (.methodLinkNest RX3 43 yX4_init RX7) U ∧ va_Nw (.methodLinkNest RX7 34 yX0_init RX7) U ∧ va_AOA .int U ∧ va_AO "java/lang/String" U
theorem NestX.warm {s U : State} (h : NestX s) (hW : s.WarmedH U.vm) : NestX U := ⟨h.1.warmM hW, h.2.1.warmM hW, h.2.2.1.warmM hW, h.2.2.2.1.moved hW.alike, h.2.2.2.2.moved hW.alike⟩
theorem NestX.calling {U : State} (h : NestX U) (g : JFrame) (mk : MethodId) (a : Array Value) : NestX (U.calling g mk a) := ⟨va_Nw.same rfl rfl h.1, va_Nw.same rfl rfl h.2.1, va_Nw.same rfl rfl h.2.2.1, va_AOA.moved (u := U) (Vm.Alike.refl U.vm) h.2.2.2.1, va_AO.moved (u := U) (Vm.Alike.refl U.vm) h.2.2.2.2⟩
def cyX (X : CX) : Nat → ClassId := match X with
  | (_, _, _, _, _, _, _, _, _, _, _, cy, _, _, _, _, _) => cy
def adX (X : CX) : Id3 → Nat := match X with
  | (_, _, _, _, _, _, _, _, _, _, _, _, _, _, ad0, _, _) => ad0
def Con (X : CX) (cc : ByteArray) (own : String) (mL d K pc : Nat) (lv : List (Nat × Value)) (st : List Value) (ws : va_W) (cl sl : Nat) (Q : State → Prop) : Prop := CxOK X cc own mL none d K → match X with
  | (p, l, e, R, s, m, args, below, meth, c, Dg, _, N0, n0, _, _, _) => n0 = 0 → meth.name = "<init>" → NestX s → ∀ (H : Heap) (locs : List Loc) (ls : Array Slot), va_P Dg classes ws H → va_D (AN N0) ws → va_S (AN N0) s.heap H locs → lv_has ls mL lv → W p l e R s m args below meth c H locs cl sl Q (F0 m pc ls st)
def CEnd (X : CX) (cc : ByteArray) (own : String) (mL d K : Nat) (post : (Nat → ClassId) → (Id3 → Nat) → va_W → Prop) (Q : State → Prop) : Prop := CxOK X cc own mL none d K → match X with
  | (p, l, e, R, s, m, args, below, meth, c, Dg, cy, N0, n0, ad0, _, _) => ∀ (H : Heap) (locs : List Loc) (ls : Array Slot) (pc : Nat) (ws1 : va_W), post cy ad0 ws1 → va_P Dg classes ws1 H → va_D (AN N0) ws1 → va_S (AN N0) s.heap H locs → decode cc pc = .ok (.return_, 1) → W p l e R s m args below meth c H locs K (6 * K) Q (F0 m pc ls [])
def CPc (N0 : Nat) (Dg : va_G) (cy : Nat → ClassId) (ad0 : Id3 → Nat) (avs : List Value) (ws0 : va_W) : Array Value → State → Prop := va_Pc avs (fun U => N0 ≤ U.heap.size ∧ va_P Dg classes ws0 U.heap ∧ va_K Dg classes (tys cy) U ∧ va_D (AN N0) ws0 ∧ Ext U N0 (fun j => ad0 (90, j, 0)) (fun j => ad0 (91, j, 0)) ∧ NestX U)
def CQc (N0 : Nat) (Dg : va_G) (cy : Nat → ClassId) (ad0 : Id3 → Nat) (post : (Nat → ClassId) → (Id3 → Nat) → va_W → Prop) : Array Value → State → Outcome → State → Prop := fun _ st oc t => oc = .returned none ∧ ∃ ws1 : va_W, post cy ad0 ws1 ∧ va_P Dg classes ws1 t.heap ∧ va_D (AN N0) ws1 ∧ va_F (AN N0) st t
def CMet (y : MethodName) (cc : ByteArray) (mL d K : Nat) (avs : List Value) (ws0 : (Nat → ClassId) → va_W) (post : (Nat → ClassId) → (Id3 → Nat) → va_W → Prop) : Prop :=
  ∀ (l : Launch) (N0 : Nat) (Dg : va_G) (cy : Nat → ClassId) (ad0 : Id3 → Nat), l.stackTraces = false → Met l y (WS y cc mL none) (rmd d K) (CPc N0 Dg cy ad0 avs (ws0 cy)) (CQc N0 Dg cy ad0 post) K (6 * K) (AN N0)
theorem c_meth {y : MethodName} {cc : ByteArray} {own : String} {mL d K : Nat} {avs : List Value} {lv : List (Nat × Value)} {ws0 : (Nat → ClassId) → va_W} {post : (Nat → ClassId) → (Id3 → Nat) → va_W → Prop} (hy : plainName y.cls = true) (ho : y.cls = own) (hnm : y.name = "<init>") (hl : (lg_sl avs).length ≤ mL) (hlv : lv_args 0 avs = lv)
    (k : ∀ X Q, CEnd X cc own mL d K post Q → Con X cc own mL d K 0 lv [] (ws0 (cyX X)) 0 0 Q) : CMet y cc mL d K avs ws0 post := by
  subst hlv
  subst ho
  intro l N0 Dg cy ad0 htr
  refine Met.ofW (cc := cc) (maxL := mL) (ret := none) hy rfl ?_
  intro p e s m args below meth c s₁ B hml hv
  obtain ⟨rfl, hsz, hP, hK, hD, hE, hN⟩ := hv
  have hts := atoms_spec (ws := WS y cc mL none) B.pre
  have hl1 := lv_entry avs (n := mL) hl
  rw [lg_entry_eq]
  generalize (lg_sl avs ++ List.replicate (mL - (lg_sl avs).length) Slot.unset).toArray = ls at hl1 ⊢
  have hC : CxOK (p, l, e, (headSpec (WS y cc mL none) (rmd d K)).room, s, m, avs.toArray, below, meth, c, Dg, cy, N0, 0, ad0, fun _ => 0, []) cc y.cls mL none d K :=
    ⟨B.exec, B.bytes, hml, B.returns, B.notSynchronized, findClass_of_methodNamed B.named, fun w hw => hts w (List.mem_cons_of_mem _ hw), hK, hsz, Nat.le_refl _, Nat.le_refl _, Nat.le_refl _, Nat.le_refl _, htr, tbl_nil B (hts _ List.mem_cons_self), hE⟩
  have hin : meth.name = "<init>" := by rw [(name_of_methodNamed B.named B.method).1]; exact hnm
  refine (k (p, l, e, (headSpec (WS y cc mL none) (rmd d K)).room, s, m, avs.toArray, below, meth, c, Dg, cy, N0, 0, ad0, fun _ => 0, []) (MQ below (CQc N0 Dg cy ad0 post) avs.toArray s K (6 * K) (AN N0)) ?_) hC rfl hin hN s.heap [] ls hP hD va_S.rf hl1
  intro _ H locs ls pc ws1 hpost hP' hD' hS' hdg
  have hlocks := B.notSynchronized
  exact W.vret B.exec B.bytes B.returns (fun t ht hW => ⟨rfl, ws1, hpost, by rw [ht]; exact hP', hD', hS'.F ht⟩) hS'.2.2 hdg
theorem ap_at {α : Type} {ws l : List α} {k : Nat} {x : α} (h : l[k]? = some x) : (ws ++ l)[ws.length + k]? = some x := by
  rw [List.getElem?_append_right (Nat.le_add_right _ _), Nat.add_sub_cancel_left]
  exact h
theorem ap_set {α : Type} {ws l : List α} {k : Nat} {x : α} : (ws ++ l).set (ws.length + k) x = ws ++ l.set k x := by
  rw [List.set_append_right _ _ (Nat.le_add_right _ _), Nat.add_sub_cancel_left]
theorem ak_int : Cond.arrayClass .int ∈ GW := by decide +kernel
theorem ak_byte : Cond.arrayClass .byte ∈ GW := by decide +kernel
section ConR
variable {X : CX} {cc : ByteArray} {own : String} {mL d K pc : Nat} {lv : List (Nat × Value)} {st : List Value} {ws l9 : va_W} {cl sl : Nat} {Q : State → Prop}
theorem c_aload {q : Fin 4} {a : Nat} (k9 : Nat) (hdg : decode cc pc = .ok (.aload_n q, 1)) (hl : lv[k9]? = some ((q : Nat), .ref a)) (k : Con X cc own mL d K (pc + 1) lv (.ref a :: st) ws cl sl Q) : Con X cc own mL d K pc lv st ws cl sl Q := by
  obtain ⟨p, l, e, R, s, m, args, below, meth, co, Dg, cy, N0, n0, ad0, sv, hh⟩ := X
  intro C h0 hi hn H locs ls hP hD hS hl9
  exact lv_aload_n C.1 C.2.1 hdg rfl (lv_at hl9 k9 hl) (k C h0 hi hn H locs ls hP hD hS hl9)
theorem c_iload {q : Fin 4} {x : Int32} (k9 : Nat) (hdg : decode cc pc = .ok (.iload_n q, 1)) (hl : lv[k9]? = some ((q : Nat), .int x)) (k : Con X cc own mL d K (pc + 1) lv (.int x :: st) ws cl sl Q) : Con X cc own mL d K pc lv st ws cl sl Q := by
  obtain ⟨p, l, e, R, s, m, args, below, meth, co, Dg, cy, N0, n0, ad0, sv, hh⟩ := X
  intro C h0 hi hn H locs ls hP hD hS hl9
  exact lv_iload_n C.1 C.2.1 hdg rfl (lv_at hl9 k9 hl) (k C h0 hi hn H locs ls hP hD hS hl9)
theorem c_istore {q : Fin 4} {x : Int32} {lv' : List (Nat × Value)} (hdg : decode cc pc = .ok (.istore_n q, 1)) (hq : (q : Nat) < mL) (hl : ((q : Nat), Value.int x) :: lv.filter (fun z => !(z.1 == (q : Nat)) && !(z.1 + 1 == (q : Nat) && z.2.category == 2)) = lv') (k : Con X cc own mL d K (pc + 1) lv' st ws cl sl Q) : Con X cc own mL d K pc lv (.int x :: st) ws cl sl Q := by
  obtain ⟨p, l, e, R, s, m, args, below, meth, co, Dg, cy, N0, n0, ad0, sv, hh⟩ := X
  intro C h0 hi hn H locs ls hP hD hS hl9
  exact lv_istore_n C.1 C.2.1 hdg rfl hl9 hq hl (fun ls' hl' => k C h0 hi hn H locs ls' hP hD hS hl')
theorem c_iconst {q : Int} (v : Int32) (hdg : decode cc pc = .ok (.iconst q, 1)) (hv : Int32.ofInt q = v) (k : Con X cc own mL d K (pc + 1) lv (.int v :: st) ws cl sl Q) : Con X cc own mL d K pc lv st ws cl sl Q := by
  obtain ⟨p, l, e, R, s, m, args, below, meth, co, Dg, cy, N0, n0, ad0, sv, hh⟩ := X
  intro C h0 hi hn H locs ls hP hD hS hl9
  exact lv_iconst C.1 C.2.1 hdg hv (k C h0 hi hn H locs ls hP hD hS hl9)
theorem c_bipush {q : Int} (v : Int32) (hdg : decode cc pc = .ok (.bipush q, 2)) (hv : (Int8.ofInt q).toInt32 = v) (k : Con X cc own mL d K (pc + 2) lv (.int v :: st) ws cl sl Q) : Con X cc own mL d K pc lv st ws cl sl Q := by
  obtain ⟨p, l, e, R, s, m, args, below, meth, co, Dg, cy, N0, n0, ad0, sv, hh⟩ := X
  intro C h0 hi hn H locs ls hP hD hS hl9
  exact lv_bipush C.1 C.2.1 hdg hv (k C h0 hi hn H locs ls hP hD hS hl9)
theorem c_sipush {q : Int} (v : Int32) (hdg : decode cc pc = .ok (.sipush q, 3)) (hv : (Int16.ofInt q).toInt32 = v) (k : Con X cc own mL d K (pc + 3) lv (.int v :: st) ws cl sl Q) : Con X cc own mL d K pc lv st ws cl sl Q := by
  obtain ⟨p, l, e, R, s, m, args, below, meth, co, Dg, cy, N0, n0, ad0, sv, hh⟩ := X
  intro C h0 hi hn H locs ls hP hD hS hl9
  exact lv_sipush C.1 C.2.1 hdg hv (k C h0 hi hn H locs ls hP hD hS hl9)
theorem c_dup {v : Value} (hdg : decode cc pc = .ok (.dup, 1)) (hv : v.category = 1) (k : Con X cc own mL d K (pc + 1) lv (v :: v :: st) ws cl sl Q) : Con X cc own mL d K pc lv (v :: st) ws cl sl Q := by
  obtain ⟨p, l, e, R, s, m, args, below, meth, co, Dg, cy, N0, n0, ad0, sv, hh⟩ := X
  intro C h0 hi hn H locs ls hP hD hS hl9
  exact lv_dup C.1 C.2.1 hdg hv (k C h0 hi hn H locs ls hP hD hS hl9)
theorem c_ldcs {q j : Nat} {text : String} (hdg : decode cc pc = .ok (.ldc q, 2)) (hs : (own, q, text, j) ∈ strT) (k : Con X cc own mL d K (pc + 2) lv (.ref (adX X (90, j, 0)) :: st) ws cl sl Q) : Con X cc own mL d K pc lv st ws cl sl Q := by
  obtain ⟨p, l, e, R, s, m, args, below, meth, co, Dg, cy, N0, n0, ad0, sv, hh⟩ := X
  intro C h0 hi hn H locs ls hP hD hS hl9
  obtain ⟨hx, hb, hml, hret, hlocks, hown, hts, hK, hN, hfr, hlo, hce, hsl, htr, htb, hE⟩ := id C
  exact va_ldcS hx hb hown (hE.1 _ hs) hdg (k C h0 hi hn H locs ls hP hD hS hl9)
theorem c_max {idx : Nat} {x y : Int32} (hdg : decode cc pc = .ok (.invokestatic idx, 3)) (hw : Cond.methodLink own idx Lib.Math.max.name ∈ GW) (hd : 1 ≤ d) (hr : (st.map fun v => v.category).sum ≤ 8) (hcl : cl ≤ K) (hsl : sl ≤ 6 * K) (k : Con X cc own mL d K (pc + 3) lv (.int (jmax x y) :: st) ws cl sl Q) : Con X cc own mL d K pc lv (.int y :: .int x :: st) ws cl sl Q := by
  obtain ⟨p, l, e, R, s, m, args, below, meth, co, Dg, cy, N0, n0, ad0, sv, hh⟩ := X
  intro C h0 hi hn H locs ls hP hD hS hl9
  obtain ⟨hx, hb, hml, hret, hlocks, hown, hts, hK, hN, hfr, hlo, hce, hsl', htr, htb, hE⟩ := id C
  subst h0
  exact va_mmax hx hb (hml.trans hl9.1.symm) hown (hts _ hw) (hts _ wm1_max) (hts _ wm2) (hts _ wm3_max) (by omega) (by omega) (by omega) (by omega) hdg (k C rfl hi hn H locs ls hP hD hS hl9)
theorem c_obj {idx a : Nat} (hw : Cond.methodLink own idx objectInit ∈ GW) (hd : 1 ≤ d) (hr : (st.map fun v => v.category).sum ≤ 8) (hdg : decode cc pc = .ok (.invokespecial idx, 3)) (k : Con X cc own mL d K (pc + 3) lv st ws cl sl Q) : Con X cc own mL d K pc lv (.ref a :: st) ws cl sl Q := by
  obtain ⟨p, l, e, R, s, m, args, below, meth, co, Dg, cy, N0, n0, ad0, sv, hh⟩ := X
  intro C h0 hi hn H locs ls hP hD hS hl9
  obtain ⟨hx, hb, hml, hret, hlocks, hown, hts, hK, hN, hfr, hlo, hce, hsl, htr, htb, hE⟩ := id C
  refine W.objInit hx hb hown (hts _ hw) (hts _ wo_1) (hts _ wo_2) rfl (by rw [hml]; exact hl9.1) (rest := st) rfl hdg (by omega) (by show 2 * 0 + _ + 12 ≤ _; omega) ?_
  exact k C h0 hi hn H locs ls hP hD hS hl9
theorem c_newI {n : Int32} {N : Nat} (hdg : decode cc pc = .ok (.newarray .int, 2)) (hn9 : ¬ n < 0) (hN : n.toNatClampNeg = N) (hb9 : N * 4 ≤ 536870912) (hcl : cl + 1 ≤ K) (hsl : sl + N ≤ 6 * K) (k : ∀ q : Nat, Con X cc own mL d K (pc + 2) lv (.ref q :: st) (ws ++ (l9 ++ [(q, .inl (cyX X 0, N, .inl (fun _ => 0)))])) (cl + 1) (sl + N) Q) : Con X cc own mL d K pc lv (.int n :: st) (ws ++ l9) cl sl Q := by
  obtain ⟨p, l, e, R, s, m, args, below, meth, co, Dg, cy, N0, n0, ad0, sv, hh⟩ := X
  intro C h0 hi hn H locs ls hP hD hS hl9
  obtain ⟨hx, hb, hml, hret, hlocks, hown, hts, hK, hN1, hfr, hlo, hce, hsl', htr, htb, hE⟩ := id C
  subst h0
  refine va_newa (atype := .int) (ty := .int) (a0 := (N, .inl (fun _ => 0))) hx hb (hts _ ak_int) rfl hK hP hD hS (fun q h => Nat.le_trans hN1 h) (fun cA => rfl) hn9 hN hb9 (by omega) (by omega) hdg (fun q cA H1 hK1 hP1 hD1 hS1 => ?_)
  have e1 : cA = cy 0 := Option.some.inj ((hK1.2 5 _ rfl).2.symm.trans (hK.2 0 _ rfl).2)
  subst e1
  rw [List.append_assoc] at hP1 hD1
  exact k q C rfl hi hn H1 locs ls hP1 hD1 hS1 hl9
theorem c_newB {n : Int32} {N : Nat} (hdg : decode cc pc = .ok (.newarray .byte, 2)) (hn9 : ¬ n < 0) (hN : n.toNatClampNeg = N) (hb9 : N * 1 ≤ 536870912) (hcl : cl + 1 ≤ K) (hsl : sl + N ≤ 6 * K) (k : ∀ q : Nat, Con X cc own mL d K (pc + 2) lv (.ref q :: st) (ws ++ (l9 ++ [(q, .inl (cyX X 1, N, .inl (fun _ => 0)))])) (cl + 1) (sl + N) Q) : Con X cc own mL d K pc lv (.int n :: st) (ws ++ l9) cl sl Q := by
  obtain ⟨p, l, e, R, s, m, args, below, meth, co, Dg, cy, N0, n0, ad0, sv, hh⟩ := X
  intro C h0 hi hn H locs ls hP hD hS hl9
  obtain ⟨hx, hb, hml, hret, hlocks, hown, hts, hK, hN1, hfr, hlo, hce, hsl', htr, htb, hE⟩ := id C
  subst h0
  refine va_newa (atype := .byte) (ty := .byte) (a0 := (N, .inl (fun _ => 0))) hx hb (hts _ ak_byte) rfl hK hP hD hS (fun q h => Nat.le_trans hN1 h) (fun cA => rfl) hn9 hN hb9 (by omega) (by omega) hdg (fun q cA H1 hK1 hP1 hD1 hS1 => ?_)
  have e1 : cA = cy 1 := Option.some.inj ((hK1.2 5 _ rfl).2.symm.trans (hK.2 1 _ rfl).2)
  subst e1
  rw [List.append_assoc] at hP1 hD1
  exact k q C rfl hi hn H1 locs ls hP1 hD1 hS1 hl9
theorem c_newG {idx : Nat} {n k9 : Int32} {N M : Nat} (hw : Cond.classLink own idx "[[I" ∈ GW) (hdg : decode cc pc = .ok (.multianewarray idx 2, 4)) (hn9 : ¬ n < 0) (hm9 : ¬ k9 < 0) (hN : n.toNatClampNeg = N) (hM : k9.toNatClampNeg = M) (hb1 : N * 4 ≤ 536870912) (hb2 : M * 4 ≤ 536870912) (hcl : cl + (1 + N) ≤ K) (hsl : sl + (N + N * M) ≤ 6 * K)
    (k : ∀ (q : Nat) (r : Nat → Nat), Con X cc own mL d K (pc + 4) lv (.ref q :: st) (ws ++ (l9 ++ ((q, .inl (cyX X 2, N, .inr (.inr (.inr (.inr (fun i => if i < N then some (r i) else none)))))) :: (List.range N).map (fun i => (r i, (.inl (cyX X 0, M, .inl (fun _ => 0)) : va_E)))))) (cl + 1 + N) (sl + N + N * M) Q) : Con X cc own mL d K pc lv (.int k9 :: .int n :: st) (ws ++ l9) cl sl Q := by
  obtain ⟨p, l, e, R, s, m, args, below, meth, co, Dg, cy, N0, n0, ad0, sv, hh⟩ := X
  intro C h0 hi hn H locs ls hP hD hS hl9
  obtain ⟨hx, hb, hml, hret, hlocks, hown, hts, hK, hN1, hfr, hlo, hce, hsl', htr, htb, hE⟩ := id C
  subst h0
  have hP0 : va_P Dg classes ((ws ++ l9) ++ va_pl [] (fun _ => (.inl (cy 0, 0, .inl (fun _ => 0)) : va_E))) H := by rw [show va_pl [] _ = [] from rfl, List.append_nil]; exact hP
  have hD0 : va_D (AN N0) ((ws ++ l9) ++ va_pl [] (fun _ => (.inl (cy 0, 0, .inl (fun _ => 0)) : va_E))) := by rw [show va_pl [] _ = [] from rfl, List.append_nil]; exact hD
  refine va_mna (ty := .int) (cy := cy 0) (z := (M, .inl (fun _ => 0))) hx hb hown (hts _ hw) hn.2.2.2.1 (hts _ ak_int) (hK.2 0 _ rfl).2 hK hP0 hD0 hS (fun q h => Nat.le_trans hN1 h) hn9 hm9 hN hM hb1 hb2 (by omega) rfl rfl (by omega) (by omega) (fun c => by show _ = arrV c M (fun _ => .int 0); exact (arrV_new c M (.int 0)) ▸ rfl) hdg (fun q r cA H1 hinj _ hK1 hP1 hD1 hS1 => ?_)
  have e1 : cA = cy 2 := Option.some.inj ((hK1.2 5 _ rfl).2.symm.trans (hK.2 2 _ rfl).2)
  subst e1
  have he : ((ws ++ l9) ++ [(q, (.inl (cy 2, N, .inr (.inr (.inr (.inr (fun i => if i < N then some (r i) else none))))) : va_E))]) ++ va_pl ([] ++ (List.range N).map r) (vr_up (fun _ => (.inl (cy 0, 0, .inl (fun _ => 0)) : va_E)) ((List.range N).map r) (.inl (cy 0, M, .inl (fun _ => 0)))) = ws ++ (l9 ++ ((q, .inl (cy 2, N, .inr (.inr (.inr (.inr (fun i => if i < N then some (r i) else none)))))) :: (List.range N).map (fun i => (r i, (.inl (cy 0, M, .inl (fun _ => 0)) : va_E))))) := by
    simp only [List.append_assoc]
    congr 2
    show _ :: _ = _
    congr 1
    unfold va_pl
    rw [List.nil_append, List.map_map]
    apply List.map_congr_left
    intro i hi
    show (r i, vr_up _ _ _ (r i)) = _
    rw [vr_up_in (List.mem_map.mpr ⟨i, hi, rfl⟩)]
  rw [he] at hP1 hD1
  exact k q r C rfl hi hn H1 locs ls hP1 hD1 hS1 hl9
end ConR
