/-! the law, from its entry to its end, over what the pure function of its loop gives -/
theorem wlk_8 : Cond.classLink RL 8 RX7 ∈ GW := GW_at 127 (by decide +kernel) (by decide +kernel)
theorem wll_99 : Cond.methodLink RL 99 yX7_init ∈ GW := GW_at 129 (by decide +kernel) (by decide +kernel)
theorem wlk_100 : Cond.classLink RL 100 RX8 ∈ GW := GW_at 1206 (by decide +kernel) (by decide +kernel)
theorem wll_102 : Cond.methodLink RL 102 yX8_init ∈ GW := GW_at 1208 (by decide +kernel) (by decide +kernel)
theorem ak_long : Cond.arrayClass .long ∈ GW := GW_at 1826 (by decide +kernel) (by decide +kernel)
def AL (ad7 ad8 : Id3 → Nat) (q3 b : Nat) (sa sv : Nat → Nat) : Id3 → Nat := fun i => if i.1 = 8 ∨ (48 ≤ i.1 ∧ i.1 ≤ 85) then ad8 i else if i.1 = 86 then q3 else if i.1 = 90 then sa i.2.1 else if i.1 = 91 then sv i.2.1 else if i.1 = 93 then b else ad7 i
theorem AL_7 {ad7 ad8 : Id3 → Nat} {q3 b : Nat} {sa sv : Nat → Nat} (i : Id3) (h : (i.1 != 8 && Nat.blt i.1 48) = true) : AL ad7 ad8 q3 b sa sv i = ad7 i := by
  obtain ⟨c, z, r⟩ := i
  simp only [Bool.and_eq_true, bne_iff_ne, ne_eq, Nat.blt_eq] at h
  simp only [AL]
  repeat (first | rw [if_neg (by omega)] | rw [if_pos (by omega)])
theorem AL_8 {ad7 ad8 : Id3 → Nat} {q3 b : Nat} {sa sv : Nat → Nat} (hs : ∀ j, ad8 (90, j, 0) = sa j) (i : Id3) (h : (i.1 == 8 || (Nat.ble 48 i.1 && Nat.ble i.1 85)) = true) : AL ad7 ad8 q3 b sa sv i = ad8 i := by
  obtain ⟨c, z, r⟩ := i
  simp only [Bool.or_eq_true, Bool.and_eq_true, beq_iff_eq, Nat.ble_eq] at h
  simp only [AL]
  rw [if_pos (by omega)]
theorem cw_congr2 {ad ad' : Id3 → Nat} (p : Id3 → Bool) (g : Nat → Nat → Bool) (hp : ∀ i, p i = true → ad i = ad' i) (hg : ∀ c z k, c ≠ 90 → g c z = true → ad (c, z, k) = ad' (c, z, k)) (hs : g 90 0 = true → ∀ j, ad (90, j, 0) = ad' (90, j, 0)) (cy : Nat → ClassId) (l : List Id3) (hl : l.all (fun i => p i && rok p g i) = true) : cw ad cy l = cw ad' cy l := by
  unfold cw
  apply List.map_congr_left
  intro i hi
  have h := List.all_eq_true.mp hl i hi
  simp only [Bool.and_eq_true] at h
  obtain ⟨h1, h2⟩ := h
  rw [hp i h1]
  congr 1
  unfold ce ceF
  unfold rok at h2
  split
  · rename_i hk
    rw [hk] at h2
    simp only at h2
    congr 2
    apply List.map_congr_left
    intro j hj
    have hj2 := List.all_eq_true.mp h2 j hj
    unfold fv
    split
    · rename_i hf
      rw [hf] at hj2
      simp only at hj2
      rw [hp _ hj2]
    · rename_i hf
      rw [hf] at hj2
      simp only at hj2
      rw [hp _ hj2]
    · rfl
  · rfl
  · rfl
  · rename_i hk
    rw [hk] at h2
    simp only at h2
    have hne : i.1 + 1 ≠ 90 := fun h => by
      have h9 : i.1 = 89 := by omega
      rw [h9] at hk
      exact absurd hk (by decide)
    simp only [hg _ _ _ hne h2]
  · rename_i hk
    rw [hk] at h2
    simp only at h2
    simp only [hs h2]
  · rfl
theorem AL_LL {ad7 ad8 : Id3 → Nat} {q3 b : Nat} {sa sv : Nat → Nat} {cy : Nat → ClassId} (hs : ∀ j, ad8 (90, j, 0) = sa j) : (cw ad7 cy L7 ++ cw ad8 cy L8) ++ [(q3, .inl (cy 4, 1, .inr (.inl (fun _ => 0))))] = cw (AL ad7 ad8 q3 b sa sv) cy LL := by
  have k7 : cw (AL ad7 ad8 q3 b sa sv) cy L7 = cw ad7 cy L7 := cw_congr (fun i => i.1 != 8 && Nat.blt i.1 48) (fun c _ => c != 8 && Nat.blt c 48) AL_7 (fun c z k h => AL_7 (c, z, k) h) (fun h => absurd h (by decide)) cy _ (by decide +kernel)
  have k8 : cw (AL ad7 ad8 q3 b sa sv) cy L8 = cw ad8 cy L8 := cw_congr2 (fun i => i.1 == 8 || (Nat.ble 48 i.1 && Nat.ble i.1 85)) (fun c z => c == 90) (AL_8 hs) (fun c z k hne h => absurd (by simpa using h) hne) (fun _ j => (hs j).symm) cy _ (by decide +kernel)
  unfold LL
  rw [cw_app, cw_app, k7, k8]
  rfl
def R_law : String := "ApartBenchLaw"
def lw_P (b : Addr) (xs : List Int32) (args : Array Value) (s : State) : Prop := args = #[.ref b] ∧ s.IntsAt b xs ∧ xs.length ≤ 3072 ∧ (Jvm.Cond.and given_1 narrow_1).before args s = true
def lw_Q (_ : Array Value) (s : State) (o : Outcome) (t : State) : Prop := o = .returned (some (.int 1)) ∧ Framed s o t [] 601024 7293034
def lw_Z (below : List Frame) (a : Array Value) (s : State) : State → Prop := fun t => ∃ o, t.status = .running ∧ Ended t below o ∧ lw_Q a s o t
/-- the law's own end, with 1 on the stack, nothing written that was there before, its room as the claim has it -/
theorem lw_ret {p : Program} {l : Launch} {e : Env} {s : State} {m : MethodId} {below : List Frame} {meth : Method} {c : Code} {b : Nat} (hx : p.tables.exec = Jvm.exec) (hb : c.code = code) (hr : meth.sig.returnType = ret) (hlocks : meth.locks = false) {pc : Nat} {H : Heap} {ls : Array Slot} (hdg : decode code pc = .ok (.ireturn, 1)) : W p l e room_1 s m #[Value.ref b] below meth c H [] 601024 7293034 (lw_Z below #[Value.ref b] s) (F0 m pc ls [.int 1]) := by
  intro T hT X
  obtain ⟨fs, hret, hrun, hended, hW, hframe⟩ := X.leave (v := some (.int 1)) (hlocks := hlocks) (fun h => by rw [hr] at h; cases h)
  have hmeth' : T.vm.method? m = some meth := X.method'
  refine ⟨T.setFrames fs, ?_, .returned (some (.int 1)), hrun, hended, rfl, ⟨_, rfl⟩, hW, hframe⟩
  jvm_step X.here [X.here.top, hx, hb, hdg, hmeth', hr, ret, narrow_b1]
  (try refine ⟨rfl, ?_⟩); (try refine ⟨rfl, ?_⟩)
  first | (intro acts; rw [hret _ acts rfl rfl rfl]) | rw [hret _ _ rfl rfl rfl]
  exact Steps.refl _
/-- what holds at the law's entry: the machine, the code, the tables' words (any of lw_tbl by 'hts w (by decide +kernel)'), the script of L ints xs at the cell b, what the Statement gives of the start (any of its parts by flat_of_before) -/
def lw_At (p : Program) (s : State) (m : MethodId) (meth : Method) (c : Code) (b L : Nat) (xs : Nat → Int32) : Prop :=
  p.tables.exec = Jvm.exec ∧ c.code = code ∧ meth.sig.returnType = ret ∧ c.maxLocals = 7 ∧ s.vm.findClass R_law = some m.cls ∧ (∀ w ∈ lw_tbl, w.before #[Value.ref b] s = true) ∧ va_X b L xs s s.heap ∧ b < s.heap.size ∧ meth.locks = false ∧ (Jvm.Cond.and given_1 narrow_1).before #[Value.ref b] s = true
def lw_Bt (p : Program) (l : Launch) (s : State) (m : MethodId) (meth : Method) (c : Code) (b L : Nat) (xs : Nat → Int32) : Prop := lw_At p s m meth c b L xs ∧ l.stackTraces = false ∧ c.exceptionTable.toList = tableOf []
theorem law_go {p : Program} {e : Env} {s : State} {m : MethodId} {below : List Frame} {meth : Method} {c : Code} (l : Launch) {b L : Nat} {xs : Nat → Int32} (C0 : lw_Bt p l s m meth c b L xs) {r : Int32 × Mem × PMem × (Nat → Int64) × Bool × Nat} {fu : Nat} (hf : f_law_23 xs L fu I0 P0 O0 false 3000 0 = some r) (hr1 : r.1 = 1) (hrn : r.2.2.2.2.2 ≤ 600000) : W p l e room_1 s m #[Value.ref b] below meth c s.heap [] 0 0 (lw_Z below #[Value.ref b] s) (entryFrame m ([Value.ref b] : List Value).toArray 7) := by
  obtain ⟨⟨hx, hb, hret, hml, hown, hts, hX, hbl, hlocks, hgv⟩, htr, htb⟩ := C0
  have hG := st_G hts
  have hN := st_N hts
  obtain ⟨Dg, cy, hK⟩ := st_K hts
  obtain ⟨sa, sv, hE⟩ := st_E hts hgv
  have hown' : s.vm.findClass RL = some m.cls := hown
  have hb' : c.code = cL_law := hb
  have hl := lv_entry ([.ref b]) (n := 7) (Nat.le_of_ble_eq_true rfl)
  rw [lg_entry_eq]
  generalize (lg_sl ([.ref b]) ++ List.replicate (7 - (lg_sl ([.ref b])).length) Slot.unset).toArray = ls at hl ⊢
  have hl : lv_has ls 7 [(0, .ref b)] := hl
  have hP0 : va_P Dg classes [] s.heap := fun k q h => by cases h
  have hD0 : va_D (AN s.heap.size) [] := ⟨fun i j p q h _ _ => (by cases h), fun k q h => (by cases h)⟩
  refine w_mk (N0 := s.heap.size) (Dg := Dg) (cy := cy) (ad0 := fun i => if i.1 = 90 then sa i.2.1 else sv i.2.1) (pc := 0) (fun _ => []) rfl (post := fun a cy ad0 ws1 => ∃ ad : Id3 → Nat, ad (7, 0, 0) = a ∧ ws1 = [] ++ cw ad cy L7) hx hb' hml hown' hG hK (Nat.le_refl _) htr hE hN clX7 wlk_8 wi_7 wN_X7 df_7 dL_law_0 dL_law_3 dL_law_4 (fun a => m_X7_init (pre := fun _ => [])) rfl wll_99 wI_X7_init wC_X7_init rfl (by decide +kernel) (by decide) (by decide) (by decide) (by decide) (by decide) hP0 hD0 va_S.rf hl ?_
  rintro q7 _ H1 locs1 ⟨ad7, e7, rfl⟩ hP1 hD1 hS1
  refine lv_astore_n (lv' := [(1, .ref q7), (0, .ref b)]) hx hb' dL_law_7 rfl hl (by decide) rfl (fun ls1 hl1 => ?_)
  refine w_mk (N0 := s.heap.size) (Dg := Dg) (cy := cy) (ad0 := fun i => if i.1 = 90 then sa i.2.1 else sv i.2.1) (pc := 8) (fun cy => [] ++ cw ad7 cy L7) rfl (post := fun a cy ad0 ws1 => ∃ ad : Id3 → Nat, ad (8, 0, 0) = a ∧ (∀ j, ad (90, j, 0) = ad0 (90, j, 0)) ∧ ws1 = ([] ++ cw ad7 cy L7) ++ cw ad cy L8) hx hb' hml hown' hG hK (Nat.le_refl _) htr hE hN clX8 wlk_100 wi_8 wN_X8 df_8 dL_law_8 dL_law_11 dL_law_12 (fun a => m_X8_init (pre := fun cy => [] ++ cw ad7 cy L7)) rfl wll_102 wI_X8_init wC_X8_init rfl (by decide +kernel) (by decide) (by decide) (by decide) (by decide) (by decide) hP1 hD1 hS1 hl1 ?_
  rintro q8 _ H2 locs2 ⟨ad8, e8, e9, rfl⟩ hP2 hD2 hS2
  refine lv_astore_n (lv' := [(2, .ref q8), (1, .ref q7), (0, .ref b)]) hx hb' dL_law_15 rfl hl1 (by decide) rfl (fun ls2 hl2 => ?_)
  refine lv_iconst (v := 1) hx hb' dL_law_16 rfl ?_
  refine va_newa (atype := .long) (ty := .long) (a0 := (1, .inr (.inl (fun _ => 0)))) hx hb' (hG _ ak_long) rfl hK hP2 hD2 hS2 (fun q h => h) (fun cA => rfl) (N' := 1) (by decide) (by decide) (by decide) (by decide) (by decide) dL_law_17 (fun q3 cA H3 hK3 hP3 hD3 hS3 => ?_)
  have eA : cA = cy 4 := Option.some.inj ((hK3.2 5 _ rfl).2.symm.trans (hK.2 4 _ rfl).2)
  subst eA
  refine lv_astore_n (lv' := [(3, .ref q3), (2, .ref q8), (1, .ref q7), (0, .ref b)]) hx hb' dL_law_19 rfl hl2 (by decide) rfl (fun ls3 hl3 => ?_)
  refine lv_iconst (v := 0) hx hb' dL_law_20 rfl ?_
  refine lv_istore (lv' := [(4, .int 0), (3, .ref q3), (2, .ref q8), (1, .ref q7), (0, .ref b)]) hx hb' dL_law_21 hl3 (by decide) rfl (fun ls4 hl4 => ?_)
  have hs : ∀ j, ad8 (90, j, 0) = sa j := e9
  rw [List.nil_append, AL_LL (b := b) (sa := sa) (sv := sv) hs] at hP3 hD3
  have g7 : AL ad7 ad8 q3 b sa sv (7, 0, 0) = q7 := (AL_7 _ rfl).trans e7
  have g8 : AL ad7 ad8 q3 b sa sv (8, 0, 0) = q8 := (AL_8 hs _ rfl).trans e8
  have g3 : AL ad7 ad8 q3 b sa sv (86, 0, 0) = q3 := rfl
  have gb : AL ad7 ad8 q3 b sa sv (93, 0, 0) = b := rfl
  have gs : ∀ j, AL ad7 ad8 q3 b sa sv (90, j, 0) = sa j := fun _ => rfl
  have gv : ∀ j, AL ad7 ad8 q3 b sa sv (91, j, 0) = sv j := fun _ => rfl
  generalize AL ad7 ad8 q3 b sa sv = ad at hP3 hD3 g7 g8 g3 gb gs gv
  refine W.widen (k := 3000) (n := 18000) (by decide) (by decide) ?_
  have hC : CxOK (p, l, e, room_1, s, m, #[Value.ref b], below, meth, c, Dg, cy, s.heap.size, 0, ad, fun _ => 0, []) cL_law RL 7 (some .boolean) 167 r.2.2.2.2.2 :=
    ⟨hx, hb', hml, hret, hlocks, hown', hG, hK, Nat.le_refl _, by decide, by decide, by show _ ≤ 601024; omega, by show _ ≤ 7293034; omega, htr, htb, by
      have q1 : (fun j => ad (90, j, 0)) = sa := funext gs
      have q2 : (fun j => ad (91, j, 0)) = sv := funext gv
      rw [q1, q2]
      exact hE⟩
  have hscr : ScrX (p, l, e, room_1, s, m, #[Value.ref b], below, meth, c, Dg, cy, s.heap.size, 0, ad, fun _ => 0, []) xs L := by
    show va_X (ad (93, 0, 0)) L xs s s.heap ∧ ad (93, 0, 0) < s.heap.size ∧ ¬ AN s.heap.size (ad (93, 0, 0))
    rw [gb]
    exact ⟨hX, hbl, fun h => absurd h (Nat.not_le_of_lt hbl)⟩
  have hH := b_law_23 (p, l, e, room_1, s, m, #[Value.ref b], below, meth, c, Dg, cy, s.heap.size, 0, ad, fun _ => 0, []) (lw_Z below #[Value.ref b] s) hscr fu hf (fun _ ad' H locs ls pc hR hdg _ => by
    refine va_forget (fun q hq => hR.2.2.1.2.2 q hq) ?_
    refine W.widen (k := 601024) (n := 7293034) (by show r.2.2.2.2.2 - 0 ≤ _; omega) (by show 6 * (r.2.2.2.2.2 - 0) ≤ _; omega) ?_
    have e1 : (((some (.inl r.1) : Option AV).map (cv ad')).toList) = [Value.int 1] := by rw [hr1]; rfl
    rw [e1]
    exact lw_ret hx hb hret hlocks hdg)
  refine hH.2 hC ad H3 locs2 ls4 ⟨cells_P hP3, cells_D hD3, hS3, ?_, Nat.zero_le _, fun _ _ => rfl, fun _ => rfl⟩
  have hlv : lvl ad 0 [some (.inr (.inr (93, 0, 0))), some (.inr (.inr (7, 0, 0))), some (.inr (.inr (8, 0, 0))), some (.inr (.inr (86, 0, 0))), some (.inl 0), none, none] = [(0, .ref b), (1, .ref q7), (2, .ref q8), (3, .ref q3), (4, .int 0)] := by
    show [(0, Value.ref (ad (93, 0, 0))), (1, .ref (ad (7, 0, 0))), (2, .ref (ad (8, 0, 0))), (3, .ref (ad (86, 0, 0))), (4, .int 0)] = _
    rw [g7, g8, g3, gb]
  rw [hlv]
  exact ⟨hl4.1, hl4.2.1, fun q hq => hl4.2.2 q (by
    simp only [List.mem_cons, List.not_mem_nil, or_false] at hq ⊢
    rcases hq with h | h | h | h | h <;> simp [h])⟩
