/-! the new objects: what stands in the static heap at the start -/
def told0 : Nat → Int32 := fun i => if i = 3 then 10 else if i = 10 then 10 else 0
def I0 : Mem := fun c _ _ i => match c with
  | 50 => told0 i
  | 5 => if i = 1 then -1 else 0
  | 7 => if i = 11 then -1 else 0
  | 8 => if i = 23 then -1 else if i = 40 then -1 else if i = 43 then -1 else 0
  | _ => 0
def P0 : PMem := fun c _ _ i => match c with
  | 5 => 1
  | 7 => if i = 3 then 1 else 0
  | _ => 0
def O0 : Nat → Int64 := fun _ => 0
def cw (ad : Id3 → Nat) (cy : Nat → ClassId) (l : List Id3) : va_W := l.map (fun i => (ad i, ce ad cy I0 P0 O0 i))
theorem arrV_congr {c : ClassId} {N : Nat} {f g : Nat → Value} (h : ∀ i, i < N → f i = g i) : arrV c N f = arrV c N g := by
  unfold arrV
  congr 1
  congr 1
  funext j
  exact h j.val j.isLt
theorem va_P_conv {Dg : va_G} {cl : List vw_C} {A B : va_W} {q : Nat} {c : ClassId} {a a' : vp_A} {H : Heap} (he : vp_cell c a = vp_cell c a') (hP : va_P Dg cl (A ++ (q, .inl (c, a)) :: B) H) : va_P Dg cl (A ++ (q, .inl (c, a')) :: B) H := by
  intro k x hx
  rcases List.mem_append.mp (List.mem_of_getElem? hx) with h | h
  · obtain ⟨i, hi⟩ := List.getElem?_of_mem (List.mem_append_left ((q, (.inl (c, a) : va_E)) :: B) h)
    exact hP i x hi
  · rcases List.mem_cons.mp h with rfl | h
    · have h1 := hP A.length (q, .inl (c, a)) (by rw [List.getElem?_append_right (Nat.le_refl _), Nat.sub_self]; rfl)
      show H[q]? = some (vp_cell c a')
      rw [← he]
      exact h1
    · obtain ⟨i, hi⟩ := List.getElem?_of_mem (List.mem_append_right A (List.mem_cons_of_mem (q, (.inl (c, a) : va_E)) h))
      exact hP i x hi
theorem va_D_conv {N : Nat → Prop} {A B : va_W} {q : Nat} {e e' : va_E} (hD : va_D N (A ++ (q, e) :: B)) : va_D N (A ++ (q, e') :: B) := by
  have key : ∀ (k : Nat) (x : Nat × va_E), (A ++ (q, e') :: B)[k]? = some x → ∃ y : Nat × va_E, (A ++ (q, e) :: B)[k]? = some y ∧ y.1 = x.1 := by
    intro k x hx
    rcases Nat.lt_or_ge k A.length with h | h
    · rw [List.getElem?_append_left h] at hx
      exact ⟨x, by rw [List.getElem?_append_left h]; exact hx, rfl⟩
    · rw [List.getElem?_append_right h] at hx
      rw [List.getElem?_append_right h]
      cases hk : k - A.length with
      | zero => rw [hk] at hx; cases hx; exact ⟨(q, e), rfl, rfl⟩
      | succ m => rw [hk] at hx; exact ⟨x, hx, rfl⟩
  refine ⟨fun i j p r h1 h2 h3 => ?_, fun k x hx => ?_⟩
  · obtain ⟨y, hy, ey⟩ := key i p h1
    obtain ⟨z, hz, ez⟩ := key j r h2
    exact hD.1 i j y z hy hz (by rw [ey, ez]; exact h3)
  · obtain ⟨y, hy, ey⟩ := key k x hx
    rw [← ey]
    exact hD.2 k y hy
/-- an entry whose cell is the same -/
theorem c_conv {X : CX} {cc : ByteArray} {own : String} {mL d K pc : Nat} {lv : List (Nat × Value)} {st : List Value} {ws ws' A B : va_W} {q cl sl : Nat} {c : ClassId} {a a' : vp_A} {Q : State → Prop} (h1 : ws = A ++ (q, .inl (c, a)) :: B) (h2 : ws' = A ++ (q, .inl (c, a')) :: B) (he : vp_cell c a = vp_cell c a') (k : Con X cc own mL d K pc lv st ws' cl sl Q) : Con X cc own mL d K pc lv st ws cl sl Q := by
  obtain ⟨p, l, e, R, s, m, args, below, meth, co, Dg, cy, N0, n0, ad0, sv, hh⟩ := X
  intro C h0 hi hn H locs ls hP hD hS hl9
  subst h1
  subst h2
  exact k C h0 hi hn H locs ls (va_P_conv he hP) (va_D_conv hD) hS hl9
/-- int[N][M] -/
def gr (cy : Nat → ClassId) (q : Nat) (r : Nat → Nat) (N M : Nat) : va_W := (q, .inl (cy 2, N, .inr (.inr (.inr (.inr (fun i => some (r i))))))) :: (List.range N).map (fun i => (r i, (.inl (cy 0, M, .inl (fun _ => 0)) : va_E)))
theorem c_newH {X : CX} {cc : ByteArray} {own : String} {mL d K pc : Nat} {lv : List (Nat × Value)} {st : List Value} {ws l9 : va_W} {cl sl : Nat} {Q : State → Prop} {idx : Nat} {n k9 : Int32} (N M : Nat) (hw : Cond.classLink own idx "[[I" ∈ GW) (hdg : decode cc pc = .ok (.multianewarray idx 2, 4)) (hn9 : ¬ n < 0) (hm9 : ¬ k9 < 0) (hN : n.toNatClampNeg = N) (hM : k9.toNatClampNeg = M) (hb1 : N * 4 ≤ 536870912) (hb2 : M * 4 ≤ 536870912) (hcl : cl + (1 + N) ≤ K) (hsl : sl + (N + N * M) ≤ 6 * K)
    (k : ∀ (q : Nat) (r : Nat → Nat), Con X cc own mL d K (pc + 4) lv (.ref q :: st) (ws ++ (l9 ++ gr (cyX X) q r N M)) (cl + 1 + N) (sl + N + N * M) Q) : Con X cc own mL d K pc lv (.int k9 :: .int n :: st) (ws ++ l9) cl sl Q := by
  refine c_newG hw hdg hn9 hm9 hN hM hb1 hb2 hcl hsl (fun q r => ?_)
  refine c_conv (A := ws ++ l9) (a' := (N, .inr (.inr (.inr (.inr (fun i => some (r i))))))) (List.append_assoc _ _ _).symm rfl ?_ ?_
  · rw [vp_cell_q, vp_cell_q]
    refine arrV_congr (fun i hi => ?_)
    show va_rf (if i < N then some (r i) else none) = va_rf (some (r i))
    rw [if_pos hi]
  · rw [List.append_assoc]
    exact k q r
/-- an object's own cell stands first -/
theorem c_putF0 {X : CX} {cc : ByteArray} {own : String} {mL d K pc : Nat} {lv : List (Nat × Value)} {st : List Value} {ws R9 : va_W} {cl sl : Nat} {Q : State → Prop} {idx ci N a j : Nat} {C : String} {T : u_T} {ty0 : Nat → FieldType} {fs fs' : List Value} {v : Value} (hcf : CLf ci C T N ty0) (hj : j < N) (hw : Cond.fieldLink own idx (T j).1 (T j).2.1 (T j).2.2.1 ∈ GW) (hfin : (T j).2.2.2 = true) (hdecl : (T j).1 = own) (hnr : narrow (ty0 j) v = v) (hft : fits (ty0 j) v = true) (hlen : Nat.blt j fs.length = true) (hs : fs.set j v = fs') (hdg : decode cc pc = .ok (.putfield idx, 3))
    (k : Con X cc own mL d K (pc + 3) lv st (ws ++ (a, .inr (ci, fs')) :: R9) cl sl Q) : Con X cc own mL d K pc lv (v :: .ref a :: st) (ws ++ (a, .inr (ci, fs)) :: R9) cl sl Q := by
  subst hs
  exact c_putF (l9 := (a, .inr (ci, fs)) :: R9) 0 hcf hj hw hfin hdecl hnr hft (by simpa using hlen) rfl hdg k
theorem c_put0 {X : CX} {cc : ByteArray} {own : String} {mL d K pc : Nat} {lv : List (Nat × Value)} {st : List Value} {ws R9 : va_W} {cl sl : Nat} {Q : State → Prop} {idx ci N a j : Nat} {C : String} {T : u_T} {ty0 : Nat → FieldType} {fs fs' : List Value} {v : Value} (hcf : CLf ci C T N ty0) (hj : j < N) (hw : Cond.fieldLink own idx (T j).1 (T j).2.1 (T j).2.2.1 ∈ GW) (hfin : (T j).2.2.2 = false) (hnr : narrow (ty0 j) v = v) (hft : fits (ty0 j) v = true) (hlen : Nat.blt j fs.length = true) (hs : fs.set j v = fs') (hdg : decode cc pc = .ok (.putfield idx, 3))
    (k : Con X cc own mL d K (pc + 3) lv st (ws ++ (a, .inr (ci, fs')) :: R9) cl sl Q) : Con X cc own mL d K pc lv (v :: .ref a :: st) (ws ++ (a, .inr (ci, fs)) :: R9) cl sl Q := by
  subst hs
  exact c_put (l9 := (a, .inr (ci, fs)) :: R9) 0 hcf hj hw hfin hnr hft (by simpa using hlen) rfl hdg k
theorem c_get0 {X : CX} {cc : ByteArray} {own : String} {mL d K pc : Nat} {lv : List (Nat × Value)} {st : List Value} {ws R9 : va_W} {cl sl : Nat} {Q : State → Prop} {idx ci N a j : Nat} {C : String} {T : u_T} {ty0 : Nat → FieldType} {fs : List Value} {v : Value} (hcf : CLf ci C T N ty0) (hj : j < N) (hw : Cond.fieldLink own idx (T j).1 (T j).2.1 (T j).2.2.1 ∈ GW) (hv : fs[j]? = some v) (hdg : decode cc pc = .ok (.getfield idx, 3))
    (k : Con X cc own mL d K (pc + 3) lv (v :: st) (ws ++ (a, .inr (ci, fs)) :: R9) cl sl Q) : Con X cc own mL d K pc lv (.ref a :: st) (ws ++ (a, .inr (ci, fs)) :: R9) cl sl Q :=
  c_get (l9 := (a, .inr (ci, fs)) :: R9) 0 hcf hj hw rfl hv hdg k
section ConA
variable {X : CX} {cc : ByteArray} {own : String} {mL d K pc : Nat} {lv : List (Nat × Value)} {st : List Value} {ws R9 : va_W} {x9 : Nat × va_E} {cl sl : Nat} {Q : State → Prop}
theorem c_newI0 {n : Int32} (N : Nat) (hdg : decode cc pc = .ok (.newarray .int, 2)) (hn9 : ¬ n < 0) (hN : n.toNatClampNeg = N) (hb9 : N * 4 ≤ 536870912) (hcl : cl + 1 ≤ K) (hsl : sl + N ≤ 6 * K) (k : ∀ q : Nat, Con X cc own mL d K (pc + 2) lv (.ref q :: st) (ws ++ x9 :: (R9 ++ [(q, .inl (cyX X 0, N, .inl (fun _ => 0)))])) (cl + 1) (sl + N) Q) : Con X cc own mL d K pc lv (.int n :: st) (ws ++ x9 :: R9) cl sl Q := c_newI (l9 := x9 :: R9) hdg hn9 hN hb9 hcl hsl k
theorem c_newB0 {n : Int32} (N : Nat) (hdg : decode cc pc = .ok (.newarray .byte, 2)) (hn9 : ¬ n < 0) (hN : n.toNatClampNeg = N) (hb9 : N * 1 ≤ 536870912) (hcl : cl + 1 ≤ K) (hsl : sl + N ≤ 6 * K) (k : ∀ q : Nat, Con X cc own mL d K (pc + 2) lv (.ref q :: st) (ws ++ x9 :: (R9 ++ [(q, .inl (cyX X 1, N, .inl (fun _ => 0)))])) (cl + 1) (sl + N) Q) : Con X cc own mL d K pc lv (.int n :: st) (ws ++ x9 :: R9) cl sl Q := c_newB (l9 := x9 :: R9) hdg hn9 hN hb9 hcl hsl k
theorem c_newH0 {idx : Nat} {n k9 : Int32} (N M : Nat) (hw : Cond.classLink own idx "[[I" ∈ GW) (hdg : decode cc pc = .ok (.multianewarray idx 2, 4)) (hn9 : ¬ n < 0) (hm9 : ¬ k9 < 0) (hN : n.toNatClampNeg = N) (hM : k9.toNatClampNeg = M) (hb1 : N * 4 ≤ 536870912) (hb2 : M * 4 ≤ 536870912) (hcl : cl + (1 + N) ≤ K) (hsl : sl + (N + N * M) ≤ 6 * K)
    (k : ∀ (q : Nat) (r : Nat → Nat), Con X cc own mL d K (pc + 4) lv (.ref q :: st) (ws ++ x9 :: (R9 ++ gr (cyX X) q r N M)) (cl + 1 + N) (sl + N + N * M) Q) : Con X cc own mL d K pc lv (.int k9 :: .int n :: st) (ws ++ x9 :: R9) cl sl Q := c_newH (l9 := x9 :: R9) N M hw hdg hn9 hm9 hN hM hb1 hb2 hcl hsl k
theorem c_newS0 {idx : Nat} {n : Int32} (N : Nat) (hw : Cond.classLink own idx "java/lang/String" ∈ GW) (hdg : decode cc pc = .ok (.anewarray idx, 3)) (hn9 : ¬ n < 0) (hN : n.toNatClampNeg = N) (hb9 : N * 4 ≤ 536870912) (hcl : cl + 1 ≤ K) (hsl : sl + N ≤ 6 * K) (k : ∀ q : Nat, Con X cc own mL d K (pc + 3) lv (.ref q :: st) (ws ++ x9 :: (R9 ++ [(q, .inl (cyX X 3, N, .inr (.inr (.inr (.inr (fun _ => none))))))])) (cl + 1) (sl + N) Q) : Con X cc own mL d K pc lv (.int n :: st) (ws ++ x9 :: R9) cl sl Q := c_newS (l9 := x9 :: R9) hw hdg hn9 hN hb9 hcl hsl k
/-- the array made last -/
theorem c_iastL {a N : Nat} {f : Nat → Int32} {i v : Int32} (hi9 : inb i N = true) (hdg : decode cc pc = .ok (.iastore, 1)) (k : Con X cc own mL d K (pc + 1) lv st (ws ++ x9 :: (R9 ++ [(a, .inl (cyX X 0, N, .inl (upd f i.toNatClampNeg v)))])) cl sl Q) : Con X cc own mL d K pc lv (.int v :: .int i :: .ref a :: st) (ws ++ x9 :: (R9 ++ [(a, .inl (cyX X 0, N, .inl f))])) cl sl Q := by
  refine c_iast (l9 := x9 :: (R9 ++ [(a, .inl (cyX X 0, N, .inl f))])) (R9.length + 1) (by rw [List.getElem?_cons_succ, List.getElem?_append_right (Nat.le_refl _), Nat.sub_self]; rfl) hi9 hdg ?_
  rw [List.set_cons_succ, List.set_append_right _ _ (Nat.le_refl _), Nat.sub_self]
  exact k
theorem c_sastL {a N j : Nat} {f : Nat → Option Nat} {i : Int32} (hj : j < nStr) (hi9 : inb i N = true) (hdg : decode cc pc = .ok (.aastore, 1)) (k : Con X cc own mL d K (pc + 1) lv st (ws ++ x9 :: (R9 ++ [(a, .inl (cyX X 3, N, .inr (.inr (.inr (.inr (va_up f i.toNatClampNeg (some (adX X (90, j, 0)))))))))])) cl sl Q) : Con X cc own mL d K pc lv (.ref (adX X (90, j, 0)) :: .int i :: .ref a :: st) (ws ++ x9 :: (R9 ++ [(a, .inl (cyX X 3, N, .inr (.inr (.inr (.inr f)))))])) cl sl Q := by
  refine c_sast (l9 := x9 :: (R9 ++ [(a, .inl (cyX X 3, N, .inr (.inr (.inr (.inr f)))))])) (R9.length + 1) hj (by rw [List.getElem?_cons_succ, List.getElem?_append_right (Nat.le_refl _), Nat.sub_self]; rfl) hi9 hdg ?_
  rw [List.set_cons_succ, List.set_append_right _ _ (Nat.le_refl _), Nat.sub_self]
  exact k
theorem c_convL {a N : Nat} {c : ClassId} {f g : Nat → Option Nat} (he : ∀ i, i < N → f i = g i) (k : Con X cc own mL d K pc lv st (ws ++ x9 :: (R9 ++ [(a, .inl (c, N, .inr (.inr (.inr (.inr g)))))])) cl sl Q) : Con X cc own mL d K pc lv st (ws ++ x9 :: (R9 ++ [(a, .inl (c, N, .inr (.inr (.inr (.inr f)))))])) cl sl Q := by
  refine c_conv (A := ws ++ x9 :: R9) (B := []) (q := a) (c := c) (a := (N, .inr (.inr (.inr (.inr f))))) (a' := (N, .inr (.inr (.inr (.inr g))))) ?_ ?_ ?_ k
  · rw [List.append_assoc]; rfl
  · rw [List.append_assoc]; rfl
  · rw [vp_cell_q, vp_cell_q]
    exact arrV_congr (fun i hi => by show va_rf _ = va_rf _; rw [he i hi])
theorem c_convLI {a N : Nat} {c : ClassId} {f g : Nat → Int32} (he : ∀ i, i < N → f i = g i) (k : Con X cc own mL d K pc lv st (ws ++ x9 :: (R9 ++ [(a, .inl (c, N, .inl g))])) cl sl Q) : Con X cc own mL d K pc lv st (ws ++ x9 :: (R9 ++ [(a, .inl (c, N, .inl f))])) cl sl Q := by
  refine c_conv (A := ws ++ x9 :: R9) (B := []) (q := a) (c := c) (a := (N, .inl f)) (a' := (N, .inl g)) ?_ ?_ ?_ k
  · rw [List.append_assoc]; rfl
  · rw [List.append_assoc]; rfl
  · rw [vp_cell_i, vp_cell_i]
    exact arrV_congr (fun i hi => by show Value.int _ = Value.int _; rw [he i hi])
/-- new, dup, (arguments), <init> : the callee's world is ours -/
theorem c_newO0 {idx ci N : Nat} {C : String} {T : u_T} {ty0 : Nat → FieldType} (fs : List Value) (hcf : CLf ci C T N ty0) (w1 : Cond.classLink own idx C ∈ GW) (w2 : Cond.instantiable C N ∈ GW) (w3 : Cond.initialized C ∈ GW) (hfs : ∀ j, j < N → defaultValue (ty0 j) = vp_V fs j) (hdg : decode cc pc = .ok (.new idx, 3)) (hcl : cl + 1 ≤ K) (hsl : sl + N ≤ 6 * K)
    (k : ∀ q : Nat, Con X cc own mL d K (pc + 3) lv (.ref q :: st) (ws ++ x9 :: (R9 ++ [(q, .inr (ci, fs))])) (cl + 1) (sl + N) Q) : Con X cc own mL d K pc lv st (ws ++ x9 :: R9) cl sl Q := c_newO (l9 := x9 :: R9) fs hcf w1 w2 w3 hfs hdg hcl hsl k
end ConA
theorem ap9 (ws : va_W) (x : Nat × va_E) (R l : va_W) : ws ++ x :: (R ++ l) = (ws ++ x :: R) ++ l := by rw [List.append_assoc]; rfl
theorem cw_app (ad : Id3 → Nat) (cy : Nat → ClassId) (l l' : List Id3) : cw ad cy (l ++ l') = cw ad cy l ++ cw ad cy l' := List.map_append
/-- what a cell speaks of -/
def rok (p : Id3 → Bool) (g : Nat → Nat → Bool) (i : Id3) : Bool := match cK i.1 with
  | 0 => (List.range (fN i.1)).all (fun j => match (fE i.1 j).1 with
    | 2 => p (rfv i.1 i.2.1 j)
    | 3 => p ((fE i.1 j).2.1, P0 i.1 i.2.1 i.2.2 j, 0)
    | _ => true)
  | 3 => g (i.1 + 1) i.2.1
  | 4 => g 90 0
  | _ => true
theorem cw_congr {ad ad' : Id3 → Nat} (p : Id3 → Bool) (g : Nat → Nat → Bool) (hp : ∀ i, p i = true → ad i = ad' i) (hg : ∀ c z k, g c z = true → ad (c, z, k) = ad' (c, z, k)) (hs : g 90 0 = true → ∀ j, ad (90, j, 0) = ad' (90, j, 0)) (cy : Nat → ClassId) (l : List Id3) (hl : l.all (fun i => p i && rok p g i) = true) : cw ad cy l = cw ad' cy l := by
  unfold cw
  apply List.map_congr_left
  intro i hi
  have h := List.all_eq_true.mp hl i hi
  simp only [Bool.and_eq_true] at h
  obtain ⟨h1, h2⟩ := h
  rw [hp i h1]
  congr 1
  unfold ce ceF
  unfold rok at h2
  split
  · rename_i hk
    rw [hk] at h2
    simp only at h2
    congr 2
    apply List.map_congr_left
    intro j hj
    have hj2 := List.all_eq_true.mp h2 j hj
    unfold fv
    split
    · rename_i hf
      rw [hf] at hj2
      simp only at hj2
      rw [hp _ hj2]
    · rename_i hf
      rw [hf] at hj2
      simp only at hj2
      rw [hp _ hj2]
    · rfl
  · rfl
  · rfl
  · rename_i hk
    rw [hk] at h2
    simp only at h2
    simp only [hg _ _ _ h2]
  · rename_i hk
    rw [hk] at h2
    simp only at h2
    simp only [hs h2]
  · rfl
