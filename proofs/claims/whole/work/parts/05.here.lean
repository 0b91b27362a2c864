/-! The abstract machine: 'Here' says that the machine, standing at a place of a method's code with locals, stack and static heap as named, comes to Q. -/
/-- the strings: where a class names one, its text, its number -/
def strT : List (String × Nat × String × Nat) := [(RX7, 67, "the tape has not so many bytes", 24), (RX5, 55, "town", 6), (RX5, 104, "inn", 12), (RX5, 64, "road", 23), (RX5, 69, "gossip", 11), (RX5, 74, "judge", 0), (RX5, 80, "deaf", 1), (RX5, 82, "wise", 2), (RX5, 84, "case", 10), (RX5, 89, "law", 13), (RX5, 189, "not", 20), (RX5, 206, "proof", 3), (RX5, 208, "harsh", 4), (RX5, 209, "day", 5), (RX5, 211, "said", 7), (RX5, 187, "and", 8), (RX5, 179, "or", 22), (RX7, 146, "no such count", 15), (RX7, 318, "no such town", 18), (RX7, 324, "no such what", 19), (RX7, 320, "no such judge", 16), (RX7, 182, "no such stop", 17), (RX7, 322, "no such case", 14), (RX7, 212, "both are one judge", 9), (RX7, 293, "not 0 to 40 years", 21), (RX8, 11, "judge", 0), (RX8, 13, "deaf", 1), (RX8, 15, "wise", 2), (RX8, 21, "proof", 3), (RX8, 23, "harsh", 4), (RX8, 25, "day", 5), (RX8, 27, "town", 6), (RX8, 29, "said", 7), (RX8, 279, "gossip", 11), (RX8, 281, "law", 13), (RX8, 252, "not", 20), (RX8, 260, "and", 8), (RX8, 265, "or", 22), (RX8, 271, "inn", 12), (RX8, 289, "road", 23), (RX8, 293, "case", 10)]
def strB : List (List Int32) := [[106, 117, 100, 103, 101], [100, 101, 97, 102], [119, 105, 115, 101], [112, 114, 111, 111, 102], [104, 97, 114, 115, 104], [100, 97, 121], [116, 111, 119, 110], [115, 97, 105, 100], [97, 110, 100], [98, 111, 116, 104, 32, 97, 114, 101, 32, 111, 110, 101, 32, 106, 117, 100, 103, 101], [99, 97, 115, 101], [103, 111, 115, 115, 105, 112], [105, 110, 110], [108, 97, 119], [110, 111, 32, 115, 117, 99, 104, 32, 99, 97, 115, 101], [110, 111, 32, 115, 117, 99, 104, 32, 99, 111, 117, 110, 116], [110, 111, 32, 115, 117, 99, 104, 32, 106, 117, 100, 103, 101], [110, 111, 32, 115, 117, 99, 104, 32, 115, 116, 111, 112], [110, 111, 32, 115, 117, 99, 104, 32, 116, 111, 119, 110], [110, 111, 32, 115, 117, 99, 104, 32, 119, 104, 97, 116], [110, 111, 116], [110, 111, 116, 32, 48, 32, 116, 111, 32, 52, 48, 32, 121, 101, 97, 114, 115], [111, 114], [114, 111, 97, 100], [116, 104, 101, 32, 116, 97, 112, 101, 32, 104, 97, 115, 32, 110, 111, 116, 32, 115, 111, 32, 109, 97, 110, 121, 32, 98, 121, 116, 101, 115]]
def strL : List Nat := [5, 4, 4, 5, 5, 3, 4, 4, 3, 18, 4, 6, 3, 3, 12, 13, 13, 12, 12, 12, 3, 17, 2, 4, 30]
def nStr : Nat := 25
def AN (N0 : Nat) : Nat → Prop := fun q => N0 ≤ q
def exN : Nat → String
  | 0 => "java/lang/IllegalArgumentException"
  | _ => "java/util/NoSuchElementException"
def exY : List String := ["java/lang/RuntimeException", "java/lang/Exception", "java/lang/Throwable"]
/-- what lies outside the world: string constants, statics, words that don't keep -/
def Ext (U : State) (N0 : Nat) (sa sv : Nat → Nat) : Prop :=
  (∀ q ∈ strT, vk_R q.1 q.2.1 q.2.2.1 (sa q.2.2.2) U) ∧ vk_S nStr strL strB sa sv (AN N0) U U.heap ∧ vx_Zq Bundle.tN "UNASSIGNED_STACK" Bundle.steD (AN N0) U U.heap ∧ vx_Zq Bundle.tN "SUPPRESSED_SENTINEL" Bundle.listD (AN N0) U U.heap ∧
  va_Z "java/lang/String" "COMPACT_STRINGS" "Z" (.int 1) (AN N0) U U.heap ∧ va_Zq "jdk/internal/util/Preconditions" "SIOOBE_FORMATTER" "Ljava/util/function/BiFunction;" (AN N0) U U.heap ∧
  (∀ k : Nat, va_Nw (.castable (exN k) (exN k)) U) ∧ (∀ Y ∈ exY, va_Nw (.declares (Bundle.initS Y)) U) ∧ va_Nc (exN 0) (exN 1) U
theorem Ext.at {s U : State} {N0 : Nat} {sa sv : Nat → Nat} {H : Heap} {locs : List Loc} (h : Ext s N0 sa sv) (hS : va_S (AN N0) s.heap H locs) (hU : U.heap = H) (hW : s.WarmedH U.vm) : Ext U N0 sa sv := by
  obtain ⟨h1, h2, h3, h4, h5, h6, h7, h8, h9⟩ := h
  have hk : ∀ a : Nat, a < s.heap.size → ¬ AN N0 a → U.heap[a]? = s.heap[a]? := fun a b c => by rw [hU]; exact hS.2.1 a b c
  exact ⟨fun q hq => vk_R.warm hW (h1 q hq), (h2.kept hk).moved hW.alike, (h3.kept hk).moved hW.alike, (h4.kept hk).moved hW.alike, (h5.kept hk).moved hW.alike, (h6.kept hk).moved hW.alike, fun k => (h7 k).warmC hW, fun Y hY => (h8 Y hY).warmD hW, h9.moved hW.alike⟩
theorem Ext.calling {U : State} {N0 : Nat} {sa sv : Nat → Nat} (h : Ext U N0 sa sv) (g : JFrame) (mk : MethodId) (a : Array Value) : Ext (U.calling g mk a) N0 sa sv := by
  obtain ⟨h1, h2, h3, h4, h5, h6, h7, h8, h9⟩ := h
  have hv : U.vm.Alike (U.calling g mk a).vm := Vm.Alike.refl U.vm
  exact ⟨fun q hq => vk_R.same (u := U) rfl (h1 q hq), vk_S.moved hv h2, vx_Zq.moved hv h3, vx_Zq.moved hv h4, va_Z.moved hv h5, va_Zq.moved hv h6, fun k => va_Nw.same rfl rfl (h7 k), fun Y hY => va_Nw.same rfl rfl (h8 Y hY), va_Nc.moved hv h9⟩
abbrev CX : Type := Program × Launch × Env × Room × State × MethodId × Array Value × List Frame × Method × Code × va_G × (Nat → ClassId) × Nat × Nat × (Id3 → Nat) × (Nat → Nat) × List (Nat × Nat × Nat × Nat)
def lvl (ad : Id3 → Nat) : Nat → List (Option AV) → List (Nat × Value)
  | _, [] => []
  | i, none :: t => lvl ad (i + 1) t
  | i, some v :: t => (i, cv ad v) :: lvl ad (i + 1) t
def CxOK (X : CX) (cc : ByteArray) (own : String) (mL : Nat) (ret : Option FieldType) (d nm : Nat) : Prop := match X with
  | (p, l, _, R, s, m, args, _, meth, c, Dg, cy, N0, n0, ad0, sv, hh) => p.tables.exec = Jvm.exec ∧ c.code = cc ∧ c.maxLocals = mL ∧ meth.sig.returnType = ret ∧ meth.locks = false ∧ s.vm.findClass own = some m.cls ∧ (∀ w ∈ GW, w.before args s = true) ∧
    va_K Dg classes (tys cy) s ∧ N0 ≤ s.heap.size ∧ d ≤ R.frames ∧ 64 * d ≤ R.locals ∧ nm - n0 ≤ R.cells ∧ 6 * (nm - n0) ≤ R.slots ∧ l.stackTraces = false ∧ c.exceptionTable.toList = tableOf hh ∧ Ext s N0 (fun j => ad0 (90, j, 0)) (fun j => ad0 (91, j, 0))
def Rep (X : CX) (mL : Nat) (ad : Id3 → Nat) (lo : List (Option AV)) (I : Mem) (P : PMem) (O : Nat → Int64) (D : Bool) (n : Nat) (H : Heap) (locs : List Loc) (ls : Array Slot) : Prop := match X with
  | (_, _, _, _, s, _, _, _, _, _, Dg, cy, N0, n0, ad0, _, _) => va_P Dg classes (wsl ad cy I P O D) H ∧ va_D (AN N0) (wsl ad cy I P O D) ∧ va_S (AN N0) s.heap H locs ∧ lv_has ls mL (lvl ad 0 lo) ∧ n0 ≤ n ∧ (∀ i : Id3, i ≠ (2, 0, 0) → ad i = ad0 i) ∧ (n = n0 → ad = ad0)
def Here (X : CX) (cc : ByteArray) (own : String) (mL : Nat) (ret : Option FieldType) (d nm pc : Nat) (lo : List (Option AV)) (st : List AV) (I : Mem) (P : PMem) (O : Nat → Int64) (D : Bool) (n : Nat) (Q : State → Prop) : Prop := n ≤ nm ∧ (CxOK X cc own mL ret d nm → match X with
  | (p, l, e, R, s, m, args, below, meth, c, _, _, _, n0, _, _, _) => ∀ (ad : Id3 → Nat) (H : Heap) (locs : List Loc) (ls : Array Slot), Rep X mL ad lo I P O D n H locs ls → W p l e R s m args below meth c H locs (n - n0) (6 * (n - n0)) Q (F0 m pc ls (st.map (cv ad))))
theorem lvl_mem (ad : Id3 → Nat) : ∀ (lo : List (Option AV)) (j i : Nat) (v : AV), nth none lo i = some v → (j + i, cv ad v) ∈ lvl ad j lo
  | [], j, i, v, h => by simp [nth] at h
  | none :: t, j, 0, v, h => by simp [nth] at h
  | some w :: t, j, 0, v, h => by
    simp [nth] at h
    subst h
    simp [lvl]
  | none :: t, j, i + 1, v, h => by
    have := lvl_mem ad t (j + 1) i v h
    rw [show j + (i + 1) = j + 1 + i by omega]
    exact this
  | some w :: t, j, i + 1, v, h => by
    have := lvl_mem ad t (j + 1) i v h
    rw [show j + (i + 1) = j + 1 + i by omega]
    exact List.mem_cons_of_mem _ this
theorem lvl_of (ad : Id3 → Nat) : ∀ (lo : List (Option AV)) (j : Nat) (q : Nat × Value), q ∈ lvl ad j lo → ∃ i v, q = (j + i, cv ad v) ∧ nth none lo i = some v
  | [], j, q, h => by simp [lvl] at h
  | none :: t, j, q, h => by
    obtain ⟨i, v, h1, h2⟩ := lvl_of ad t (j + 1) q h
    exact ⟨i + 1, v, by rw [h1]; congr 1; omega, h2⟩
  | some w :: t, j, q, h => by
    rcases List.mem_cons.mp h with h | h
    · exact ⟨0, w, h, rfl⟩
    · obtain ⟨i, v, h1, h2⟩ := lvl_of ad t (j + 1) q h
      exact ⟨i + 1, v, by rw [h1]; congr 1; omega, h2⟩
theorem lv_mono {ls : Array Slot} {n : Nat} {l l' : List (Nat × Value)} (h : lv_has ls n l) (hs : ∀ q ∈ l', q ∈ l) : lv_has ls n l' := ⟨h.1, h.2.1, fun q hq => h.2.2 q (hs q hq)⟩
theorem lvl_at {ad : Id3 → Nat} {ls : Array Slot} {n : Nat} {lo : List (Option AV)} (h : lv_has ls n (lvl ad 0 lo)) {i : Nat} {v : AV} (hi : nth none lo i = some v) : ls[i]? = some (.val (cv ad v)) := by
  have := h.2.2 _ (lvl_mem ad lo 0 i v hi)
  simpa using this
def setL : List (Option AV) → Nat → AV → List (Option AV)
  | [], _, _ => []
  | _ :: t, 0, v => some v :: t
  | a :: t, n + 1, v => a :: setL t n v
def noL : List (Option AV) → Bool
  | [] => true
  | some (.inr (.inl _)) :: _ => false
  | _ :: t => noL t
theorem nth_setL : ∀ (lo : List (Option AV)) (i j : Nat) (v w : AV), nth none (setL lo i v) j = some w → (j = i ∧ w = v) ∨ (j ≠ i ∧ nth none lo j = some w)
  | [], i, j, v, w, h => by simp [setL, nth] at h
  | a :: t, 0, 0, v, w, h => by
    simp [setL, nth] at h
    exact Or.inl ⟨rfl, h.symm⟩
  | a :: t, 0, j + 1, v, w, h => Or.inr ⟨by omega, h⟩
  | a :: t, i + 1, 0, v, w, h => Or.inr ⟨by omega, h⟩
  | a :: t, i + 1, j + 1, v, w, h => by
    rcases nth_setL t i j v w h with ⟨h1, h2⟩ | ⟨h1, h2⟩
    · exact Or.inl ⟨by omega, h2⟩
    · exact Or.inr ⟨by omega, h2⟩
theorem noL_at : ∀ (lo : List (Option AV)) (i : Nat) (v : AV), noL lo = true → nth none lo i = some v → ∀ ad, (cv ad v).category = 1
  | [], i, v, _, h, ad => by simp [nth] at h
  | none :: t, 0, v, _, h, ad => by simp [nth] at h
  | some (.inl x) :: t, 0, v, _, h, ad => by
    simp [nth] at h; subst h; rfl
  | some (.inr (.inr x)) :: t, 0, v, _, h, ad => by
    simp [nth] at h; subst h; rfl
  | some (.inr (.inl x)) :: t, i, v, hn, h, ad => by simp [noL] at hn
  | none :: t, i + 1, v, hn, h, ad => noL_at t i v hn h ad
  | some (.inl x) :: t, i + 1, v, hn, h, ad => noL_at t i v hn h ad
  | some (.inr (.inr x)) :: t, i + 1, v, hn, h, ad => noL_at t i v hn h ad
theorem lvl_setL {ad : Id3 → Nat} {ls : Array Slot} {n i : Nat} {v : AV} {lo : List (Option AV)} (hn : noL lo = true) (h : lv_has ls n ((i, cv ad v) :: (lvl ad 0 lo).filter (fun q => !(q.1 == i) && !(q.1 + 1 == i && q.2.category == 2)))) : lv_has ls n (lvl ad 0 (setL lo i v)) := by
  refine lv_mono h (fun q hq => ?_)
  obtain ⟨j, w, h1, h2⟩ := lvl_of ad _ _ _ hq
  rw [Nat.zero_add] at h1
  rcases nth_setL lo i j v w h2 with ⟨h3, h4⟩ | ⟨h3, h4⟩
  · subst h3; subst h4; subst h1
    exact List.mem_cons_self
  · refine List.mem_cons_of_mem _ (List.mem_filter.mpr ⟨?_, ?_⟩)
    · rw [h1]
      have := lvl_mem ad lo 0 j w h4
      rwa [Nat.zero_add] at this
    · subst h1
      have := noL_at lo j w hn h4 ad
      simp [h3, this]
def mask : List Bool → List (Option AV) → List (Option AV)
  | [], _ => []
  | _, [] => []
  | true :: b, a :: t => a :: mask b t
  | false :: b, _ :: t => none :: mask b t
theorem nth_mask : ∀ (b : List Bool) (lo : List (Option AV)) (i : Nat) (v : AV), nth none (mask b lo) i = some v → nth none lo i = some v
  | [], lo, i, v, h => by simp [mask, nth] at h
  | true :: b, [], i, v, h => by simp [mask, nth] at h
  | false :: b, [], i, v, h => by simp [mask, nth] at h
  | true :: b, a :: t, 0, v, h => h
  | false :: b, a :: t, 0, v, h => by simp [mask, nth] at h
  | true :: b, a :: t, i + 1, v, h => nth_mask b t i v h
  | false :: b, a :: t, i + 1, v, h => nth_mask b t i v h
section Rules
variable {X : CX} {cc : ByteArray} {own : String} {mL : Nat} {ret : Option FieldType} {d nm pc : Nat} {lo : List (Option AV)} {st : List AV} {I : Mem} {P : PMem} {O : Nat → Int64} {D : Bool} {n : Nat} {Q : State → Prop}
theorem h_mask (b : List Bool) (k : Here X cc own mL ret d nm pc (mask b lo) st I P O D n Q) : Here X cc own mL ret d nm pc lo st I P O D n Q := by
  obtain ⟨p, l, e, R, s, m, args, below, meth, co, Dg, cy, N0, n0, ad0, sv, hh⟩ := X
  refine ⟨k.1, fun C ad H locs ls hR => k.2 C ad H locs ls ⟨hR.1, hR.2.1, hR.2.2.1, ?_, hR.2.2.2.2⟩⟩
  refine lv_mono hR.2.2.2.1 (fun q hq => ?_)
  obtain ⟨j, w, h1, h2⟩ := lvl_of ad _ _ _ hq
  rw [h1]
  exact lvl_mem ad lo 0 j w (nth_mask b lo j w h2)
theorem h_iadd {x y : Int32} (hdg : decode cc pc = .ok (.iadd, 1)) (k : Here X cc own mL ret d nm (pc + 1) lo (.inl (x + y) :: st) I P O D n Q) : Here X cc own mL ret d nm pc lo (.inl y :: .inl x :: st) I P O D n Q := by
  obtain ⟨p, l, e, R, s, m, args, below, meth, co, Dg, cy, N0, n0, ad0, sv, hh⟩ := X
  refine ⟨k.1, fun C ad H locs ls hR => ?_⟩
  exact lv_iadd C.1 C.2.1 hdg (k.2 C ad H locs ls hR)
theorem h_isub {x y : Int32} (hdg : decode cc pc = .ok (.isub, 1)) (k : Here X cc own mL ret d nm (pc + 1) lo (.inl (x - y) :: st) I P O D n Q) : Here X cc own mL ret d nm pc lo (.inl y :: .inl x :: st) I P O D n Q := by
  obtain ⟨p, l, e, R, s, m, args, below, meth, co, Dg, cy, N0, n0, ad0, sv, hh⟩ := X
  refine ⟨k.1, fun C ad H locs ls hR => ?_⟩
  exact lv_isub C.1 C.2.1 hdg (k.2 C ad H locs ls hR)
theorem h_imul {x y : Int32} (hdg : decode cc pc = .ok (.imul, 1)) (k : Here X cc own mL ret d nm (pc + 1) lo (.inl (x * y) :: st) I P O D n Q) : Here X cc own mL ret d nm pc lo (.inl y :: .inl x :: st) I P O D n Q := by
  obtain ⟨p, l, e, R, s, m, args, below, meth, co, Dg, cy, N0, n0, ad0, sv, hh⟩ := X
  refine ⟨k.1, fun C ad H locs ls hR => ?_⟩
  exact lv_imul C.1 C.2.1 hdg (k.2 C ad H locs ls hR)
theorem h_iand {x y : Int32} (hdg : decode cc pc = .ok (.iand, 1)) (k : Here X cc own mL ret d nm (pc + 1) lo (.inl (x &&& y) :: st) I P O D n Q) : Here X cc own mL ret d nm pc lo (.inl y :: .inl x :: st) I P O D n Q := by
  obtain ⟨p, l, e, R, s, m, args, below, meth, co, Dg, cy, N0, n0, ad0, sv, hh⟩ := X
  refine ⟨k.1, fun C ad H locs ls hR => ?_⟩
  exact lv_iand C.1 C.2.1 hdg (k.2 C ad H locs ls hR)
theorem h_ior {x y : Int32} (hdg : decode cc pc = .ok (.ior, 1)) (k : Here X cc own mL ret d nm (pc + 1) lo (.inl (x ||| y) :: st) I P O D n Q) : Here X cc own mL ret d nm pc lo (.inl y :: .inl x :: st) I P O D n Q := by
  obtain ⟨p, l, e, R, s, m, args, below, meth, co, Dg, cy, N0, n0, ad0, sv, hh⟩ := X
  refine ⟨k.1, fun C ad H locs ls hR => ?_⟩
  exact lv_ior C.1 C.2.1 hdg (k.2 C ad H locs ls hR)
theorem h_ixor {x y : Int32} (hdg : decode cc pc = .ok (.ixor, 1)) (k : Here X cc own mL ret d nm (pc + 1) lo (.inl (x ^^^ y) :: st) I P O D n Q) : Here X cc own mL ret d nm pc lo (.inl y :: .inl x :: st) I P O D n Q := by
  obtain ⟨p, l, e, R, s, m, args, below, meth, co, Dg, cy, N0, n0, ad0, sv, hh⟩ := X
  refine ⟨k.1, fun C ad H locs ls hR => ?_⟩
  exact lv_ixor C.1 C.2.1 hdg (k.2 C ad H locs ls hR)
theorem h_ishl {x y : Int32} (hdg : decode cc pc = .ok (.ishl, 1)) (k : Here X cc own mL ret d nm (pc + 1) lo (.inl (x <<< (y &&& 31)) :: st) I P O D n Q) : Here X cc own mL ret d nm pc lo (.inl y :: .inl x :: st) I P O D n Q := by
  obtain ⟨p, l, e, R, s, m, args, below, meth, co, Dg, cy, N0, n0, ad0, sv, hh⟩ := X
  refine ⟨k.1, fun C ad H locs ls hR => ?_⟩
  exact lv_ishl C.1 C.2.1 hdg (k.2 C ad H locs ls hR)
theorem h_ishr {x y : Int32} (hdg : decode cc pc = .ok (.ishr, 1)) (k : Here X cc own mL ret d nm (pc + 1) lo (.inl (x >>> (y &&& 31)) :: st) I P O D n Q) : Here X cc own mL ret d nm pc lo (.inl y :: .inl x :: st) I P O D n Q := by
  obtain ⟨p, l, e, R, s, m, args, below, meth, co, Dg, cy, N0, n0, ad0, sv, hh⟩ := X
  refine ⟨k.1, fun C ad H locs ls hR => ?_⟩
  exact lv_ishr C.1 C.2.1 hdg (k.2 C ad H locs ls hR)
theorem h_iushr {x y : Int32} (hdg : decode cc pc = .ok (.iushr, 1)) (k : Here X cc own mL ret d nm (pc + 1) lo (.inl ((x.toUInt32 >>> (y.toUInt32 &&& Int32.toUInt32 31)).toInt32) :: st) I P O D n Q) : Here X cc own mL ret d nm pc lo (.inl y :: .inl x :: st) I P O D n Q := by
  obtain ⟨p, l, e, R, s, m, args, below, meth, co, Dg, cy, N0, n0, ad0, sv, hh⟩ := X
  refine ⟨k.1, fun C ad H locs ls hR => ?_⟩
  exact lv_iushr C.1 C.2.1 hdg rfl (k.2 C ad H locs ls hR)
theorem h_idiv {x y : Int32} (hdg : decode cc pc = .ok (.idiv, 1)) (hy : ¬ y = 0) (k : Here X cc own mL ret d nm (pc + 1) lo (.inl (x / y) :: st) I P O D n Q) : Here X cc own mL ret d nm pc lo (.inl y :: .inl x :: st) I P O D n Q := by
  obtain ⟨p, l, e, R, s, m, args, below, meth, co, Dg, cy, N0, n0, ad0, sv, hh⟩ := X
  refine ⟨k.1, fun C ad H locs ls hR => ?_⟩
  exact lv_idiv C.1 C.2.1 hdg hy (k.2 C ad H locs ls hR)
theorem h_irem {x y : Int32} (hdg : decode cc pc = .ok (.irem, 1)) (hy : ¬ y = 0) (k : Here X cc own mL ret d nm (pc + 1) lo (.inl (x - x / y * y) :: st) I P O D n Q) : Here X cc own mL ret d nm pc lo (.inl y :: .inl x :: st) I P O D n Q := by
  obtain ⟨p, l, e, R, s, m, args, below, meth, co, Dg, cy, N0, n0, ad0, sv, hh⟩ := X
  refine ⟨k.1, fun C ad H locs ls hR => ?_⟩
  exact lv_irem C.1 C.2.1 hdg hy (k.2 C ad H locs ls hR)
theorem h_i2l {x : Int32} (hdg : decode cc pc = .ok (.i2l, 1)) (k : Here X cc own mL ret d nm (pc + 1) lo (.inr (.inl x.toInt64) :: st) I P O D n Q) : Here X cc own mL ret d nm pc lo (.inl x :: st) I P O D n Q := by
  obtain ⟨p, l, e, R, s, m, args, below, meth, co, Dg, cy, N0, n0, ad0, sv, hh⟩ := X
  refine ⟨k.1, fun C ad H locs ls hR => ?_⟩
  exact lv_i2l C.1 C.2.1 hdg rfl (k.2 C ad H locs ls hR)
theorem h_i2b {x : Int32} (hdg : decode cc pc = .ok (.i2b, 1)) (k : Here X cc own mL ret d nm (pc + 1) lo (.inl x.toInt8.toInt32 :: st) I P O D n Q) : Here X cc own mL ret d nm pc lo (.inl x :: st) I P O D n Q := by
  obtain ⟨p, l, e, R, s, m, args, below, meth, co, Dg, cy, N0, n0, ad0, sv, hh⟩ := X
  refine ⟨k.1, fun C ad H locs ls hR => ?_⟩
  exact lv_i2b C.1 C.2.1 hdg rfl (k.2 C ad H locs ls hR)
theorem h_lcmp {x y : Int64} (hdg : decode cc pc = .ok (.lcmp, 1)) (k : Here X cc own mL ret d nm (pc + 1) lo (.inl (lg_cmp x y) :: st) I P O D n Q) : Here X cc own mL ret d nm pc lo (.inr (.inl y) :: .inr (.inl x) :: st) I P O D n Q := by
  obtain ⟨p, l, e, R, s, m, args, below, meth, co, Dg, cy, N0, n0, ad0, sv, hh⟩ := X
  refine ⟨k.1, fun C ad H locs ls hR => ?_⟩
  exact W.lcmp C.1 C.2.1 hdg (k.2 C ad H locs ls hR)
theorem h_iconst {q : Int} (v : Int32) (hdg : decode cc pc = .ok (.iconst q, 1)) (hv : Int32.ofInt q = v) (k : Here X cc own mL ret d nm (pc + 1) lo (.inl v :: st) I P O D n Q) : Here X cc own mL ret d nm pc lo (st) I P O D n Q := by
  obtain ⟨p, l, e, R, s, m, args, below, meth, co, Dg, cy, N0, n0, ad0, sv, hh⟩ := X
  refine ⟨k.1, fun C ad H locs ls hR => ?_⟩
  exact lv_iconst C.1 C.2.1 hdg hv (k.2 C ad H locs ls hR)
theorem h_bipush {q : Int} (v : Int32) (hdg : decode cc pc = .ok (.bipush q, 2)) (hv : (Int8.ofInt q).toInt32 = v) (k : Here X cc own mL ret d nm (pc + 2) lo (.inl v :: st) I P O D n Q) : Here X cc own mL ret d nm pc lo (st) I P O D n Q := by
  obtain ⟨p, l, e, R, s, m, args, below, meth, co, Dg, cy, N0, n0, ad0, sv, hh⟩ := X
  refine ⟨k.1, fun C ad H locs ls hR => ?_⟩
  exact lv_bipush C.1 C.2.1 hdg hv (k.2 C ad H locs ls hR)
theorem h_sipush {q : Int} (v : Int32) (hdg : decode cc pc = .ok (.sipush q, 3)) (hv : (Int16.ofInt q).toInt32 = v) (k : Here X cc own mL ret d nm (pc + 3) lo (.inl v :: st) I P O D n Q) : Here X cc own mL ret d nm pc lo (st) I P O D n Q := by
  obtain ⟨p, l, e, R, s, m, args, below, meth, co, Dg, cy, N0, n0, ad0, sv, hh⟩ := X
  refine ⟨k.1, fun C ad H locs ls hR => ?_⟩
  exact lv_sipush C.1 C.2.1 hdg hv (k.2 C ad H locs ls hR)
theorem h_lconst {q : Fin 2} (v : Int64) (hdg : decode cc pc = .ok (.lconst q, 1)) (hv : Int64.ofNat (q : Nat) = v) (k : Here X cc own mL ret d nm (pc + 1) lo (.inr (.inl v) :: st) I P O D n Q) : Here X cc own mL ret d nm pc lo (st) I P O D n Q := by
  obtain ⟨p, l, e, R, s, m, args, below, meth, co, Dg, cy, N0, n0, ad0, sv, hh⟩ := X
  refine ⟨k.1, fun C ad H locs ls hR => ?_⟩
  exact lv_lconst C.1 C.2.1 hdg hv (k.2 C ad H locs ls hR)
theorem h_ldci {q : Nat} (v : Int32) (hdg : decode cc pc = .ok (.ldc q, 2)) (hw : Cond.constant own q v ∈ GW) (k : Here X cc own mL ret d nm (pc + 2) lo (.inl v :: st) I P O D n Q) : Here X cc own mL ret d nm pc lo (st) I P O D n Q := by
  obtain ⟨p, l, e, R, s, m, args, below, meth, co, Dg, cy, N0, n0, ad0, sv, hh⟩ := X
  refine ⟨k.1, fun C ad H locs ls hR => ?_⟩
  exact lv_ldc C.1 C.2.1 C.2.2.2.2.2.1 (C.2.2.2.2.2.2.1 _ hw) hdg (k.2 C ad H locs ls hR)
theorem h_ldcwi {q : Nat} (v : Int32) (hdg : decode cc pc = .ok (.ldc_w q, 3)) (hw : Cond.constant own q v ∈ GW) (k : Here X cc own mL ret d nm (pc + 3) lo (.inl v :: st) I P O D n Q) : Here X cc own mL ret d nm pc lo (st) I P O D n Q := by
  obtain ⟨p, l, e, R, s, m, args, below, meth, co, Dg, cy, N0, n0, ad0, sv, hh⟩ := X
  refine ⟨k.1, fun C ad H locs ls hR => ?_⟩
  exact lv_ldcw C.1 C.2.1 C.2.2.2.2.2.1 (C.2.2.2.2.2.2.1 _ hw) hdg (k.2 C ad H locs ls hR)
theorem h_ldc2 {q : Nat} (v : Int64) (hdg : decode cc pc = .ok (.ldc2_w q, 3)) (hw : Cond.constantLong own q v ∈ GW) (k : Here X cc own mL ret d nm (pc + 3) lo (.inr (.inl v) :: st) I P O D n Q) : Here X cc own mL ret d nm pc lo (st) I P O D n Q := by
  obtain ⟨p, l, e, R, s, m, args, below, meth, co, Dg, cy, N0, n0, ad0, sv, hh⟩ := X
  refine ⟨k.1, fun C ad H locs ls hR => ?_⟩
  exact lv_ldc2 C.1 C.2.1 C.2.2.2.2.2.1 (C.2.2.2.2.2.2.1 _ hw) hdg (k.2 C ad H locs ls hR)
theorem h_iload_n {q : Fin 4} {x : Int32} (hdg : decode cc pc = .ok (.iload_n q, 1)) (hl : nth none lo (q : Nat) = some (.inl x)) (k : Here X cc own mL ret d nm (pc + 1) lo (.inl x :: st) I P O D n Q) : Here X cc own mL ret d nm pc lo (st) I P O D n Q := by
  obtain ⟨p, l, e, R, s, m, args, below, meth, co, Dg, cy, N0, n0, ad0, sv, hh⟩ := X
  refine ⟨k.1, fun C ad H locs ls hR => ?_⟩
  exact lv_iload_n C.1 C.2.1 hdg rfl (lvl_at hR.2.2.2.1 hl) (k.2 C ad H locs ls hR)
theorem h_iload {q : Nat} {x : Int32} (hdg : decode cc pc = .ok (.iload q, 2)) (hl : nth none lo q = some (.inl x)) (k : Here X cc own mL ret d nm (pc + 2) lo (.inl x :: st) I P O D n Q) : Here X cc own mL ret d nm pc lo (st) I P O D n Q := by
  obtain ⟨p, l, e, R, s, m, args, below, meth, co, Dg, cy, N0, n0, ad0, sv, hh⟩ := X
  refine ⟨k.1, fun C ad H locs ls hR => ?_⟩
  exact lv_iload C.1 C.2.1 hdg (lvl_at hR.2.2.2.1 hl) (k.2 C ad H locs ls hR)
theorem h_lload_n {q : Fin 4} {x : Int64} (hdg : decode cc pc = .ok (.lload_n q, 1)) (hl : nth none lo (q : Nat) = some (.inr (.inl x))) (k : Here X cc own mL ret d nm (pc + 1) lo (.inr (.inl x) :: st) I P O D n Q) : Here X cc own mL ret d nm pc lo (st) I P O D n Q := by
  obtain ⟨p, l, e, R, s, m, args, below, meth, co, Dg, cy, N0, n0, ad0, sv, hh⟩ := X
  refine ⟨k.1, fun C ad H locs ls hR => ?_⟩
  exact lv_lload_n C.1 C.2.1 hdg rfl (lvl_at hR.2.2.2.1 hl) (k.2 C ad H locs ls hR)
theorem h_lload {q : Nat} {x : Int64} (hdg : decode cc pc = .ok (.lload q, 2)) (hl : nth none lo q = some (.inr (.inl x))) (k : Here X cc own mL ret d nm (pc + 2) lo (.inr (.inl x) :: st) I P O D n Q) : Here X cc own mL ret d nm pc lo (st) I P O D n Q := by
  obtain ⟨p, l, e, R, s, m, args, below, meth, co, Dg, cy, N0, n0, ad0, sv, hh⟩ := X
  refine ⟨k.1, fun C ad H locs ls hR => ?_⟩
  exact lv_lload C.1 C.2.1 hdg (lvl_at hR.2.2.2.1 hl) (k.2 C ad H locs ls hR)
theorem h_aload_n {q : Fin 4} {x : Id3} (hdg : decode cc pc = .ok (.aload_n q, 1)) (hl : nth none lo (q : Nat) = some (.inr (.inr x))) (k : Here X cc own mL ret d nm (pc + 1) lo (.inr (.inr x) :: st) I P O D n Q) : Here X cc own mL ret d nm pc lo (st) I P O D n Q := by
  obtain ⟨p, l, e, R, s, m, args, below, meth, co, Dg, cy, N0, n0, ad0, sv, hh⟩ := X
  refine ⟨k.1, fun C ad H locs ls hR => ?_⟩
  exact lv_aload_n C.1 C.2.1 hdg rfl (lvl_at hR.2.2.2.1 hl) (k.2 C ad H locs ls hR)
theorem h_aload {q : Nat} {x : Id3} (hdg : decode cc pc = .ok (.aload q, 2)) (hl : nth none lo q = some (.inr (.inr x))) (k : Here X cc own mL ret d nm (pc + 2) lo (.inr (.inr x) :: st) I P O D n Q) : Here X cc own mL ret d nm pc lo (st) I P O D n Q := by
  obtain ⟨p, l, e, R, s, m, args, below, meth, co, Dg, cy, N0, n0, ad0, sv, hh⟩ := X
  refine ⟨k.1, fun C ad H locs ls hR => ?_⟩
  exact lv_aload C.1 C.2.1 hdg (lvl_at hR.2.2.2.1 hl) (k.2 C ad H locs ls hR)
theorem h_istore_n {q : Fin 4} {x : Int32} (hdg : decode cc pc = .ok (.istore_n q, 1)) (hq : (q : Nat) < mL) (hn : noL lo = true) (k : Here X cc own mL ret d nm (pc + 1) (setL lo (q : Nat) (.inl x)) st I P O D n Q) : Here X cc own mL ret d nm pc lo (.inl x :: st) I P O D n Q := by
  obtain ⟨p, l, e, R, s, m, args, below, meth, co, Dg, cy, N0, n0, ad0, sv, hh⟩ := X
  refine ⟨k.1, fun C ad H locs ls hR => ?_⟩
  exact lv_istore_n C.1 C.2.1 hdg rfl hR.2.2.2.1 hq rfl (fun ls' hl' => k.2 C ad H locs ls' ⟨hR.1, hR.2.1, hR.2.2.1, lvl_setL (v := .inl x) hn hl', hR.2.2.2.2⟩)
theorem h_istore {q : Nat} {x : Int32} (hdg : decode cc pc = .ok (.istore q, 2)) (hq : q < mL) (hn : noL lo = true) (k : Here X cc own mL ret d nm (pc + 2) (setL lo q (.inl x)) st I P O D n Q) : Here X cc own mL ret d nm pc lo (.inl x :: st) I P O D n Q := by
  obtain ⟨p, l, e, R, s, m, args, below, meth, co, Dg, cy, N0, n0, ad0, sv, hh⟩ := X
  refine ⟨k.1, fun C ad H locs ls hR => ?_⟩
  exact lv_istore C.1 C.2.1 hdg hR.2.2.2.1 hq rfl (fun ls' hl' => k.2 C ad H locs ls' ⟨hR.1, hR.2.1, hR.2.2.1, lvl_setL (v := .inl x) hn hl', hR.2.2.2.2⟩)
theorem h_astore_n {q : Fin 4} {x : Id3} (hdg : decode cc pc = .ok (.astore_n q, 1)) (hq : (q : Nat) < mL) (hn : noL lo = true) (k : Here X cc own mL ret d nm (pc + 1) (setL lo (q : Nat) (.inr (.inr x))) st I P O D n Q) : Here X cc own mL ret d nm pc lo (.inr (.inr x) :: st) I P O D n Q := by
  obtain ⟨p, l, e, R, s, m, args, below, meth, co, Dg, cy, N0, n0, ad0, sv, hh⟩ := X
  refine ⟨k.1, fun C ad H locs ls hR => ?_⟩
  exact lv_astore_n C.1 C.2.1 hdg rfl hR.2.2.2.1 hq rfl (fun ls' hl' => k.2 C ad H locs ls' ⟨hR.1, hR.2.1, hR.2.2.1, lvl_setL (v := .inr (.inr x)) hn hl', hR.2.2.2.2⟩)
theorem h_astore {q : Nat} {x : Id3} (hdg : decode cc pc = .ok (.astore q, 2)) (hq : q < mL) (hn : noL lo = true) (k : Here X cc own mL ret d nm (pc + 2) (setL lo q (.inr (.inr x))) st I P O D n Q) : Here X cc own mL ret d nm pc lo (.inr (.inr x) :: st) I P O D n Q := by
  obtain ⟨p, l, e, R, s, m, args, below, meth, co, Dg, cy, N0, n0, ad0, sv, hh⟩ := X
  refine ⟨k.1, fun C ad H locs ls hR => ?_⟩
  exact lv_astore C.1 C.2.1 hdg hR.2.2.2.1 hq rfl (fun ls' hl' => k.2 C ad H locs ls' ⟨hR.1, hR.2.1, hR.2.2.1, lvl_setL (v := .inr (.inr x)) hn hl', hR.2.2.2.2⟩)
theorem h_iinc {q : Nat} {w : Int} {x : Int32} (v : Int32) (hdg : decode cc pc = .ok (.iinc q w, 3)) (hl : nth none lo q = some (.inl x)) (hv : Int32.ofInt w = v) (hq : q < mL) (hn : noL lo = true) (k : Here X cc own mL ret d nm (pc + 3) (setL lo q (.inl (x + v))) st I P O D n Q) : Here X cc own mL ret d nm pc lo st I P O D n Q := by
  obtain ⟨p, l, e, R, s, m, args, below, meth, co, Dg, cy, N0, n0, ad0, sv, hh⟩ := X
  refine ⟨k.1, fun C ad H locs ls hR => ?_⟩
  have hm : (q, Value.int x) ∈ lvl ad 0 lo := by
    have := lvl_mem ad lo 0 q _ hl
    rwa [Nat.zero_add] at this
  obtain ⟨kk, hk⟩ := List.getElem?_of_mem hm
  exact lv_iinc C.1 C.2.1 hdg hR.2.2.2.1 hk (by rw [hv]) hq rfl (fun ls' hl' => k.2 C ad H locs ls' ⟨hR.1, hR.2.1, hR.2.2.1, lvl_setL (v := .inl (x + v)) hn hl', hR.2.2.2.2⟩)
theorem h_dup {v : AV} (hdg : decode cc pc = .ok (.dup, 1)) (hv : ∀ ad, (cv ad v).category = 1) (k : Here X cc own mL ret d nm (pc + 1) lo (v :: v :: st) I P O D n Q) : Here X cc own mL ret d nm pc lo (v :: st) I P O D n Q := by
  obtain ⟨p, l, e, R, s, m, args, below, meth, co, Dg, cy, N0, n0, ad0, sv, hh⟩ := X
  refine ⟨k.1, fun C ad H locs ls hR => ?_⟩
  exact lv_dup C.1 C.2.1 hdg (hv ad) (k.2 C ad H locs ls hR)
theorem h_pop {v : AV} (hdg : decode cc pc = .ok (.pop, 1)) (hv : ∀ ad, (cv ad v).category = 1) (k : Here X cc own mL ret d nm (pc + 1) lo (st) I P O D n Q) : Here X cc own mL ret d nm pc lo (v :: st) I P O D n Q := by
  obtain ⟨p, l, e, R, s, m, args, below, meth, co, Dg, cy, N0, n0, ad0, sv, hh⟩ := X
  refine ⟨k.1, fun C ad H locs ls hR => ?_⟩
  exact lv_pop C.1 C.2.1 hdg (hv ad) (k.2 C ad H locs ls hR)
theorem h_dup2 {v w : AV} (hdg : decode cc pc = .ok (.dup2, 1)) (hv : ∀ ad, (cv ad v).category = 1) (hw : ∀ ad, (cv ad w).category = 1) (k : Here X cc own mL ret d nm (pc + 1) lo (v :: w :: v :: w :: st) I P O D n Q) : Here X cc own mL ret d nm pc lo (v :: w :: st) I P O D n Q := by
  obtain ⟨p, l, e, R, s, m, args, below, meth, co, Dg, cy, N0, n0, ad0, sv, hh⟩ := X
  refine ⟨k.1, fun C ad H locs ls hR => ?_⟩
  exact lv_dup2_11 C.1 C.2.1 hdg (hv ad) (hw ad) (k.2 C ad H locs ls hR)
theorem h_goto {off : Int} {tgt : Nat} (hdg : decode cc pc = .ok (.goto off, 3)) (ht : (pc : Int) + off = (tgt : Int)) (k : Here X cc own mL ret d nm tgt lo st I P O D n Q) : Here X cc own mL ret d nm pc lo st I P O D n Q := by
  obtain ⟨p, l, e, R, s, m, args, below, meth, co, Dg, cy, N0, n0, ad0, sv, hh⟩ := X
  refine ⟨k.1, fun C ad H locs ls hR => ?_⟩
  exact lv_goto C.1 C.2.1 hdg ht (k.2 C ad H locs ls hR)
theorem h_icmp_eq {x y : Int32} {off : Int} {tgt : Nat} (hdg : decode cc pc = .ok (.if_icmp .eq off, 3)) (ht : (pc : Int) + off = (tgt : Int)) (kt : x = y → Here X cc own mL ret d nm tgt lo st I P O D n Q) (kf : ¬ (x = y) → Here X cc own mL ret d nm (pc + 3) lo st I P O D n Q) : Here X cc own mL ret d nm pc lo (.inl y :: .inl x :: st) I P O D n Q := by
  obtain ⟨p, l, e, R, s, m, args, below, meth, co, Dg, cy, N0, n0, ad0, sv, hh⟩ := X
  refine ⟨(Classical.em (x = y)).elim (fun h => (kt h).1) (fun h => (kf h).1), fun C ad H locs ls hR => ?_⟩
  exact lv_icmp_eq C.1 C.2.1 hdg ht (fun h => (kt h).2 C ad H locs ls hR) (fun h => (kf h).2 C ad H locs ls hR)
theorem h_if_eq {x : Int32} {off : Int} {tgt : Nat} (hdg : decode cc pc = .ok (.ifCond .eq off, 3)) (ht : (pc : Int) + off = (tgt : Int)) (kt : x = 0 → Here X cc own mL ret d nm tgt lo st I P O D n Q) (kf : ¬ (x = 0) → Here X cc own mL ret d nm (pc + 3) lo st I P O D n Q) : Here X cc own mL ret d nm pc lo (.inl x :: st) I P O D n Q := by
  obtain ⟨p, l, e, R, s, m, args, below, meth, co, Dg, cy, N0, n0, ad0, sv, hh⟩ := X
  refine ⟨(Classical.em (x = 0)).elim (fun h => (kt h).1) (fun h => (kf h).1), fun C ad H locs ls hR => ?_⟩
  exact lv_if_eq C.1 C.2.1 hdg ht (fun h => (kt h).2 C ad H locs ls hR) (fun h => (kf h).2 C ad H locs ls hR)
theorem h_icmp_ne {x y : Int32} {off : Int} {tgt : Nat} (hdg : decode cc pc = .ok (.if_icmp .ne off, 3)) (ht : (pc : Int) + off = (tgt : Int)) (kt : ¬ x = y → Here X cc own mL ret d nm tgt lo st I P O D n Q) (kf : x = y → Here X cc own mL ret d nm (pc + 3) lo st I P O D n Q) : Here X cc own mL ret d nm pc lo (.inl y :: .inl x :: st) I P O D n Q := by
  obtain ⟨p, l, e, R, s, m, args, below, meth, co, Dg, cy, N0, n0, ad0, sv, hh⟩ := X
  refine ⟨(Classical.em (¬ x = y)).elim (fun h => (kt h).1) (fun h => (kf (Classical.not_not.mp h)).1), fun C ad H locs ls hR => ?_⟩
  exact lv_icmp_ne C.1 C.2.1 hdg ht (fun h => (kt h).2 C ad H locs ls hR) (fun h => (kf h).2 C ad H locs ls hR)
theorem h_if_ne {x : Int32} {off : Int} {tgt : Nat} (hdg : decode cc pc = .ok (.ifCond .ne off, 3)) (ht : (pc : Int) + off = (tgt : Int)) (kt : ¬ x = 0 → Here X cc own mL ret d nm tgt lo st I P O D n Q) (kf : x = 0 → Here X cc own mL ret d nm (pc + 3) lo st I P O D n Q) : Here X cc own mL ret d nm pc lo (.inl x :: st) I P O D n Q := by
  obtain ⟨p, l, e, R, s, m, args, below, meth, co, Dg, cy, N0, n0, ad0, sv, hh⟩ := X
  refine ⟨(Classical.em (¬ x = 0)).elim (fun h => (kt h).1) (fun h => (kf (Classical.not_not.mp h)).1), fun C ad H locs ls hR => ?_⟩
  exact lv_if_ne C.1 C.2.1 hdg ht (fun h => (kt h).2 C ad H locs ls hR) (fun h => (kf h).2 C ad H locs ls hR)
theorem h_icmp_lt {x y : Int32} {off : Int} {tgt : Nat} (hdg : decode cc pc = .ok (.if_icmp .lt off, 3)) (ht : (pc : Int) + off = (tgt : Int)) (kt : x < y → Here X cc own mL ret d nm tgt lo st I P O D n Q) (kf : ¬ (x < y) → Here X cc own mL ret d nm (pc + 3) lo st I P O D n Q) : Here X cc own mL ret d nm pc lo (.inl y :: .inl x :: st) I P O D n Q := by
  obtain ⟨p, l, e, R, s, m, args, below, meth, co, Dg, cy, N0, n0, ad0, sv, hh⟩ := X
  refine ⟨(Classical.em (x < y)).elim (fun h => (kt h).1) (fun h => (kf h).1), fun C ad H locs ls hR => ?_⟩
  exact lv_icmp_lt C.1 C.2.1 hdg ht (fun h => (kt h).2 C ad H locs ls hR) (fun h => (kf h).2 C ad H locs ls hR)
theorem h_if_lt {x : Int32} {off : Int} {tgt : Nat} (hdg : decode cc pc = .ok (.ifCond .lt off, 3)) (ht : (pc : Int) + off = (tgt : Int)) (kt : x < 0 → Here X cc own mL ret d nm tgt lo st I P O D n Q) (kf : ¬ (x < 0) → Here X cc own mL ret d nm (pc + 3) lo st I P O D n Q) : Here X cc own mL ret d nm pc lo (.inl x :: st) I P O D n Q := by
  obtain ⟨p, l, e, R, s, m, args, below, meth, co, Dg, cy, N0, n0, ad0, sv, hh⟩ := X
  refine ⟨(Classical.em (x < 0)).elim (fun h => (kt h).1) (fun h => (kf h).1), fun C ad H locs ls hR => ?_⟩
  exact lv_if_lt C.1 C.2.1 hdg ht (fun h => (kt h).2 C ad H locs ls hR) (fun h => (kf h).2 C ad H locs ls hR)
theorem h_icmp_ge {x y : Int32} {off : Int} {tgt : Nat} (hdg : decode cc pc = .ok (.if_icmp .ge off, 3)) (ht : (pc : Int) + off = (tgt : Int)) (kt : y ≤ x → Here X cc own mL ret d nm tgt lo st I P O D n Q) (kf : ¬ (y ≤ x) → Here X cc own mL ret d nm (pc + 3) lo st I P O D n Q) : Here X cc own mL ret d nm pc lo (.inl y :: .inl x :: st) I P O D n Q := by
  obtain ⟨p, l, e, R, s, m, args, below, meth, co, Dg, cy, N0, n0, ad0, sv, hh⟩ := X
  refine ⟨(Classical.em (y ≤ x)).elim (fun h => (kt h).1) (fun h => (kf h).1), fun C ad H locs ls hR => ?_⟩
  exact lv_icmp_ge C.1 C.2.1 hdg ht (fun h => (kt h).2 C ad H locs ls hR) (fun h => (kf h).2 C ad H locs ls hR)
theorem h_if_ge {x : Int32} {off : Int} {tgt : Nat} (hdg : decode cc pc = .ok (.ifCond .ge off, 3)) (ht : (pc : Int) + off = (tgt : Int)) (kt : 0 ≤ x → Here X cc own mL ret d nm tgt lo st I P O D n Q) (kf : ¬ (0 ≤ x) → Here X cc own mL ret d nm (pc + 3) lo st I P O D n Q) : Here X cc own mL ret d nm pc lo (.inl x :: st) I P O D n Q := by
  obtain ⟨p, l, e, R, s, m, args, below, meth, co, Dg, cy, N0, n0, ad0, sv, hh⟩ := X
  refine ⟨(Classical.em (0 ≤ x)).elim (fun h => (kt h).1) (fun h => (kf h).1), fun C ad H locs ls hR => ?_⟩
  exact lv_if_ge C.1 C.2.1 hdg ht (fun h => (kt h).2 C ad H locs ls hR) (fun h => (kf h).2 C ad H locs ls hR)
theorem h_icmp_gt {x y : Int32} {off : Int} {tgt : Nat} (hdg : decode cc pc = .ok (.if_icmp .gt off, 3)) (ht : (pc : Int) + off = (tgt : Int)) (kt : y < x → Here X cc own mL ret d nm tgt lo st I P O D n Q) (kf : ¬ (y < x) → Here X cc own mL ret d nm (pc + 3) lo st I P O D n Q) : Here X cc own mL ret d nm pc lo (.inl y :: .inl x :: st) I P O D n Q := by
  obtain ⟨p, l, e, R, s, m, args, below, meth, co, Dg, cy, N0, n0, ad0, sv, hh⟩ := X
  refine ⟨(Classical.em (y < x)).elim (fun h => (kt h).1) (fun h => (kf h).1), fun C ad H locs ls hR => ?_⟩
  exact lv_icmp_gt C.1 C.2.1 hdg ht (fun h => (kt h).2 C ad H locs ls hR) (fun h => (kf h).2 C ad H locs ls hR)
theorem h_if_gt {x : Int32} {off : Int} {tgt : Nat} (hdg : decode cc pc = .ok (.ifCond .gt off, 3)) (ht : (pc : Int) + off = (tgt : Int)) (kt : 0 < x → Here X cc own mL ret d nm tgt lo st I P O D n Q) (kf : ¬ (0 < x) → Here X cc own mL ret d nm (pc + 3) lo st I P O D n Q) : Here X cc own mL ret d nm pc lo (.inl x :: st) I P O D n Q := by
  obtain ⟨p, l, e, R, s, m, args, below, meth, co, Dg, cy, N0, n0, ad0, sv, hh⟩ := X
  refine ⟨(Classical.em (0 < x)).elim (fun h => (kt h).1) (fun h => (kf h).1), fun C ad H locs ls hR => ?_⟩
  exact lv_if_gt C.1 C.2.1 hdg ht (fun h => (kt h).2 C ad H locs ls hR) (fun h => (kf h).2 C ad H locs ls hR)
theorem h_icmp_le {x y : Int32} {off : Int} {tgt : Nat} (hdg : decode cc pc = .ok (.if_icmp .le off, 3)) (ht : (pc : Int) + off = (tgt : Int)) (kt : x ≤ y → Here X cc own mL ret d nm tgt lo st I P O D n Q) (kf : ¬ (x ≤ y) → Here X cc own mL ret d nm (pc + 3) lo st I P O D n Q) : Here X cc own mL ret d nm pc lo (.inl y :: .inl x :: st) I P O D n Q := by
  obtain ⟨p, l, e, R, s, m, args, below, meth, co, Dg, cy, N0, n0, ad0, sv, hh⟩ := X
  refine ⟨(Classical.em (x ≤ y)).elim (fun h => (kt h).1) (fun h => (kf h).1), fun C ad H locs ls hR => ?_⟩
  exact lv_icmp_le C.1 C.2.1 hdg ht (fun h => (kt h).2 C ad H locs ls hR) (fun h => (kf h).2 C ad H locs ls hR)
theorem h_if_le {x : Int32} {off : Int} {tgt : Nat} (hdg : decode cc pc = .ok (.ifCond .le off, 3)) (ht : (pc : Int) + off = (tgt : Int)) (kt : x ≤ 0 → Here X cc own mL ret d nm tgt lo st I P O D n Q) (kf : ¬ (x ≤ 0) → Here X cc own mL ret d nm (pc + 3) lo st I P O D n Q) : Here X cc own mL ret d nm pc lo (.inl x :: st) I P O D n Q := by
  obtain ⟨p, l, e, R, s, m, args, below, meth, co, Dg, cy, N0, n0, ad0, sv, hh⟩ := X
  refine ⟨(Classical.em (x ≤ 0)).elim (fun h => (kt h).1) (fun h => (kf h).1), fun C ad H locs ls hR => ?_⟩
  exact lv_if_le C.1 C.2.1 hdg ht (fun h => (kt h).2 C ad H locs ls hR) (fun h => (kf h).2 C ad H locs ls hR)
end Rules
