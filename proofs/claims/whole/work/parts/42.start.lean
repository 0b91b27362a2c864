/-! new C() in the law's own code -/
theorem w_mk {p : Program} {l : Launch} {e : Env} {R : Room} {s : State} {m : MethodId} {args : Array Value} {below : List Frame} {meth : Method} {c : Code} {Dg : va_G} {cy : Nat → ClassId} {N0 : Nat} {ad0 : Id3 → Nat} {H : Heap} {locs : List Loc} {ls : Array Slot} {cc : ByteArray} {own : String} {mL pc cl sl : Nat} {lv : List (Nat × Value)} {ws : va_W} {Q : State → Prop}
    {idx idx2 ci N d' K' maxL : Nat} {C : String} {T : u_T} {ty0 : Nat → FieldType} {fs : List Value} (pre : (Nat → ClassId) → va_W) (hpr : pre cy = ws) {y : MethodName} {bytes : ByteArray} {post : Nat → (Nat → ClassId) → (Id3 → Nat) → va_W → Prop}
    (hx : p.tables.exec = Jvm.exec) (hb : c.code = cc) (hml : c.maxLocals = mL) (hown : s.vm.findClass own = some m.cls) (hts : ∀ w ∈ GW, w.before args s = true) (hK : va_K Dg classes (tys cy) s) (hN1 : N0 ≤ s.heap.size) (htr : l.stackTraces = false) (hE : Ext s N0 (fun j => ad0 (90, j, 0)) (fun j => ad0 (91, j, 0))) (hn : NestX s)
    (hcf : CLf ci C T N ty0) (w1 : Cond.classLink own idx C ∈ GW) (w2 : Cond.instantiable C N ∈ GW) (w3 : Cond.initialized C ∈ GW) (hfs : ∀ j, j < N → defaultValue (ty0 j) = vp_V fs j) (hd0 : decode cc pc = .ok (.new idx, 3)) (hd3 : decode cc (pc + 3) = .ok (.dup, 1)) (hd4 : decode cc (pc + 4) = .ok (.invokespecial idx2, 3))
    (hM : ∀ a : Nat, CMet y bytes maxL d' K' [.ref a] (fun cy' => pre cy' ++ [(a, .inr (ci, fs))]) (post a)) (hyC : y.cls = C) (w4 : Cond.methodLink own idx2 y ∈ GW) (w5 : Cond.instanceMethod y ∈ GW) (w6 : Cond.code y bytes maxL none ∈ GW) (hnm : y.name = "<init>")
    (hw2 : y.cls ≠ "java/lang/invoke/MethodHandle" ∧ y.cls ≠ "java/lang/invoke/VarHandle" ∧ (parseMethodDescriptor y.desc).map (fun d => d.parameters.length) = some 0) (hmL : maxL ≤ 40) (hfr : d' + 1 ≤ R.frames) (hlo : 64 * d' + 60 ≤ R.locals) (hcl : cl + 1 + K' ≤ R.cells) (hsl : sl + N + 6 * K' ≤ R.slots)
    (hP : va_P Dg classes ws H) (hD : va_D (AN N0) ws) (hS : va_S (AN N0) s.heap H locs) (hl9 : lv_has ls mL lv)
    (k : ∀ (q : Nat) (ws1 : va_W) (H1 : Heap) (locs1 : List Loc), post q cy ad0 ws1 → va_P Dg classes ws1 H1 → va_D (AN N0) ws1 → va_S (AN N0) s.heap H1 locs1 → W p l e R s m args below meth c H1 locs1 (cl + 1 + K') (sl + N + 6 * K') Q (F0 m (pc + 7) ls [.ref q])) : W p l e R s m args below meth c H locs cl sl Q (F0 m pc ls []) := by
  obtain ⟨hc, hin, hty, hnm2, -, -⟩ := hcf
  refine va_new (ci := ci) (fs := fs) (C := C) (T := T) (N := N) hx hb hts hin ty0 hty hown (hts _ w1) (hts _ w2) (hts _ w3) hK hP hD hS (fun q h => Nat.le_trans hN1 h) hc hfs (by omega) (by omega) hd0 (fun q H1 hP1 hD1 hS1 => ?_)
  refine lv_dup hx hb hd3 rfl ?_
  have hG : GoodIn GW (WS y bytes maxL none) := GoodGW (fun w hw => by
    rcases List.mem_cons.mp hw with rfl | h
    · exact w6
    · exact h)
  have e0 : (pre cy ++ [(q, .inr (ci, fs))] : va_W) = ws ++ [(q, .inr (ci, fs))] := by rw [hpr]
  have hpre : PreS s H1 (CPc N0 Dg cy ad0 [.ref q] (pre cy ++ [(q, .inr (ci, fs))])) [.ref q] := ⟨CPc.blind, fun U hU hW => ⟨rfl, by rw [hU]; exact Nat.le_trans hN1 hS1.1, by rw [hU, e0]; exact hP1, va_K.moved hW.alike hK, by rw [e0]; exact hD1, hE.at hS1 hU hW, hn.warm hW⟩⟩
  have hroom : (rmd d' K').frames + 1 ≤ R.frames ∧ 8 + (maxL + 11) + (rmd d' K').locals ≤ R.locals := ⟨by show d' + 1 ≤ R.frames; omega, by show 8 + (maxL + 11) + 64 * d' ≤ R.locals; omega⟩
  have hrun : va_Run p l e R s m args below meth c H1 locs (cl + 1) (sl + N) K' (6 * K') (F0 m (pc + 3 + 1) ls [.ref q, .ref q]) [.ref q] (CQc N0 Dg cy ad0 (post q) [Value.ref q].toArray) (AN N0) :=
    va_runI (As := []) (rest := [.ref q]) (b := q) ⟨hx, hb, hml, hown, hts⟩ (hM q l N0 Dg cy ad0 htr) (cwI 0 hts hG rfl rfl rfl (hts _ (by rw [hyC]; exact w3)) (hts _ w4) (hts _ w5) hnm hw2 hroom) hpre rfl rfl hl9.1 rfl (lv_room (Nat.le_of_ble_eq_true rfl)) hd4 ⟨by omega, by omega⟩
  intro T hT X9
  obtain ⟨v9, st₀, t, T', L, e0, X', hL, e1, e2, ⟨hv9, ws1, hpost, hP', hD', hF'⟩, go⟩ := hrun T hT X9
  cases hv9
  have hS' : va_S (AN N0) s.heap T'.heap (locs ++ L) := by
    rw [e1]
    refine ⟨Nat.le_trans hS1.1 (by rw [← e0]; exact hF'.1), fun q h1 h2 => ?_, fun q hq => ?_⟩
    · rw [hF'.2 q (by rw [e0]; exact Nat.lt_of_lt_of_le h1 hS1.1) h2, e0]
      exact hS1.2.1 q h1 h2
    · rcases List.mem_append.mp hq with h | h
      · exact hS1.2.2 q h
      · exact hL q h
  obtain ⟨t2, a1, b1⟩ := k q ws1 T'.heap (locs ++ L) hpost (by rw [e1]; exact hP') hD' hS' T' rfl X'
  exact ⟨t2, go t2 a1, b1⟩
def LL : List Id3 := L7 ++ L8 ++ [(86, 0, 0)]
theorem LL_all : ∀ i ∈ CELLS, i ∈ LL := by decide +kernel
theorem CELLS_nd : CELLS.Nodup := by decide +kernel
theorem nodup_at {α : Type} {l : List α} (h : l.Nodup) {i j : Nat} {a : α} (hi : l[i]? = some a) (hj : l[j]? = some a) : i = j := by
  obtain ⟨h1, e1⟩ := List.getElem?_eq_some_iff.mp hi
  obtain ⟨h2, e2⟩ := List.getElem?_eq_some_iff.mp hj
  exact (List.getElem_inj h).mp (e1.trans e2.symm)
theorem cells_P {Dg : va_G} {ad : Id3 → Nat} {cy : Nat → ClassId} {H : Heap} (h : va_P Dg classes (cw ad cy LL) H) : va_P Dg classes (wsl ad cy I0 P0 O0 false) H := by
  intro k q hq
  obtain ⟨i, hi, rfl⟩ := List.mem_map.mp (List.mem_of_getElem? hq)
  have hi' : i ∈ CELLS := by simpa [LST] using hi
  obtain ⟨j, hj⟩ := List.getElem?_of_mem (List.mem_map_of_mem (f := fun i => (ad i, ce ad cy I0 P0 O0 i)) (LL_all i hi'))
  exact h j _ hj
theorem cells_D {A : Nat → Prop} {ad : Id3 → Nat} {cy : Nat → ClassId} (h : va_D A (cw ad cy LL)) : va_D A (wsl ad cy I0 P0 O0 false) := by
  have key : ∀ (k : Nat) (q : Nat × va_E), (wsl ad cy I0 P0 O0 false)[k]? = some q → ∃ (i : Id3) (j : Nat), CELLS[k]? = some i ∧ q = (ad i, ce ad cy I0 P0 O0 i) ∧ LL[j]? = some i ∧ (cw ad cy LL)[j]? = some q := by
    intro k q hq
    unfold wsl at hq
    rw [List.getElem?_map] at hq
    cases hi : (LST false)[k]? with
    | none => rw [hi] at hq; cases hq
    | some i =>
      rw [hi] at hq
      have hq : (ad i, ce ad cy I0 P0 O0 i) = q := Option.some.inj hq
      have hC : CELLS[k]? = some i := by
        have : LST false = CELLS := by unfold LST; simp
        rw [← this]; exact hi
      obtain ⟨j, hj⟩ := List.getElem?_of_mem (LL_all i (List.mem_of_getElem? hC))
      refine ⟨i, j, hC, hq.symm, hj, ?_⟩
      unfold cw
      rw [List.getElem?_map, hj, ← hq]
      rfl
  refine ⟨fun a b p q h1 h2 h3 => ?_, fun k q hq => ?_⟩
  · obtain ⟨i, j, c1, e1, d1, f1⟩ := key a p h1
    obtain ⟨i', j', c2, e2, d2, f2⟩ := key b q h2
    have hjj : j = j' := h.1 j j' p q f1 f2 h3
    subst hjj
    rw [d1] at d2
    cases d2
    exact nodup_at CELLS_nd c1 c2
  · obtain ⟨i, j, c1, e1, d1, f1⟩ := key k q hq
    exact h.2 j q f1
