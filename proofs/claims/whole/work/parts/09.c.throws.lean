theorem EnA.grow {N0 : Nat} {Dg : va_G} {cy : Nat → ClassId} {ad0 ad : Id3 → Nat} {keep : Prop} {I : Mem} {P : PMem} {O : Nat → Int64} {D : Bool} {s t : State} {H : Heap} {locs : List Loc} (hP : va_P Dg classes (wsl ad cy I P O D) H) (hD : va_D (AN N0) (wsl ad cy I P O D)) (hS : va_S (AN N0) s.heap H locs) (had : ∀ i : Id3, i ≠ (2, 0, 0) → ad i = ad0 i) (hk : keep → ad = ad0) (h1 : H.size ≤ t.heap.size) (h2 : ∀ q : Nat, q < H.size → t.heap[q]? = H[q]?) : EnA N0 Dg cy ad0 ad keep I P O D s t := by
  refine ⟨hP.kept (fun k q hq => h2 q.1 (hP k q hq).lt), hD, ⟨Nat.le_trans hS.1 h1, fun q g1 g2 => ?_⟩, had, hk⟩
  rw [h2 q (Nat.lt_of_lt_of_le g1 hS.1)]
  exact hS.2.1 q g1 g2
section Throws
variable {X : CX} {cc : ByteArray} {own : String} {mL : Nat} {ret : Option FieldType} {d nm pc : Nat} {lo : List (Option AV)} {st stk : List AV} {I I' : Mem} {P P' : PMem} {O O' : Nat → Int64} {D D' : Bool} {n n' : Nat} {Q : State → Prop}
theorem h_throw {ik is ic ex j ix : Nat} {rx : ByteArray} {text : String} (hw : TWk own ik ic ex ix rx) (hs : (own, is, text, j) ∈ strT) (hdp : 6 ≤ d) (hr : Nat.ble (catS st) 8 = true)
    (d0 : decode cc pc = .ok (.new ik, 3)) (d3 : decode cc (pc + 3) = .ok (.dup, 1)) (d4 : decode cc (pc + 4) = .ok (.ldc is, 2)) (d6 : decode cc (pc + 6) = .ok (.invokespecial ic, 3)) (d9 : decode cc (pc + 9) = .ok (.athrow, 1))
    (E : EndX X cc own mL ret d (n + 1) ex I P O D Q) : Here X cc own mL ret d (n + 1) pc lo st I P O D n Q := by
  obtain ⟨p, l, e, R, s, m, args, below, meth, co, Dg, cy, N0, n0, ad0, sv, hh⟩ := X
  refine ⟨Nat.le_succ _, fun C ad H locs ls hR => ?_⟩
  obtain ⟨hhn, Qc, XC, rfl, hX⟩ := E C
  obtain ⟨w1, w2, w3, w4, w5, v0, v1, v2, v5⟩ := hw
  obtain ⟨hx, hb, hml, hret, hlocks, hown, hts, hK, hN, hfr, hlo, hce, hsl, htr, htb, hE⟩ := id C
  obtain ⟨hP, hD, hS, hl, hn0, had, hk0⟩ := id hR
  obtain ⟨x1, -, x3, x4, -, -, x7, x8, -⟩ := hE
  have hcat : ((st.map (cv ad)).map fun v => v.category).sum ≤ 8 := by rw [catS_eq]; exact Nat.le_of_ble_eq_true hr
  refine tx_throwS (names := exL) hx hb htr v0 v1 v2 v5 hown w1 exL_fit (hts _ w2) (hts _ w3) (x1 _ hs) ?_ w5 x3 x4 hS (hl.1.trans hml.symm) d0 d3 d4 d6 d9 ?_ ?_ ?_ (by omega) (by omega) hlocks ?_ hS.2.2 (by omega) (by omega)
  · intro w h
    rcases w4 w h with h | rfl | ⟨Y, hY, rfl⟩
    · exact hts w h
    · exact va_Nw.use rfl (x7 ex)
    · exact va_Nw.use rfl (x8 Y hY)
  · rw [htb, hhn]
    intro x hx
    cases hx
  · show 2 + 3 < R.frames
    omega
  · show _ + (13 * (2 + 1) + 43) ≤ R.locals
    omega
  · intro t g1 g2 g3
    exact hX ad t (EnA.grow hP hD hS had (fun h => by omega) g2 g3)
theorem h_callVX {y : MethodName} {bytes : ByteArray} {maxL d' idx c z na ex : Nat} {rt : Option FieldType} {as : List AV} (hM : MethX y bytes maxL rt d' (.inr (.inr (c, z, 0)) :: as) I P O D n ex I' P' O' D' n') (hw : CWV own idx y bytes maxL rt c na) (hdg : decode cc pc = .ok (.invokevirtual idx, 3))
    (hna : as.length = na) (ho : okI D c z 0 = true) (hd : d' + 1 ≤ d) (hr : Nat.ble (catS st) 8 = true) (hst : stk = as.reverse ++ .inr (.inr (c, z, 0)) :: st)
    (E : EndX X cc own mL ret d n' ex I' P' O' D' Q) : Here X cc own mL ret d n' pc lo stk I P O D n Q := by
  obtain ⟨p, l, e, R, s, m, args, below, meth, co, Dg, cy, N0, n0, ad0, sv, hh⟩ := X
  obtain ⟨hw1, hw2, ⟨T, N, hc⟩, hK0, hmL⟩ := hw
  have hnn := hM.1
  refine ⟨hnn, fun C ad H locs ls hR => ?_⟩
  obtain ⟨hhn, Qc, XC, rfl, hX⟩ := E C
  obtain ⟨hx, hb, hml, hret, hlocks, hown, hts, hK, hN, hfr, hlo, hce, hsl, htr, htb, hE⟩ := id C
  obtain ⟨hP, hD, hS, hl, hn0, had, hk0⟩ := id hR
  obtain ⟨q0, -, hq0⟩ := wsl_get (ad := ad) (cy := cy) (I := I) (P := P) (O := O) (mem_LST ho)
  rw [ce_obj hK0] at hq0
  have hstk : (F0 m pc ls (stk.map (cv ad))).stack = (as.map (cv ad)).reverse ++ .ref (ad (c, z, 0)) :: st.map (cv ad) := by
    show stk.map (cv ad) = _
    rw [hst, List.map_append, List.map_reverse, List.map_cons]
    rfl
  have hrun := vx_runV (As := as.map (cv ad)) (rest := st.map (cv ad)) (b := ad (c, z, 0)) (g := F0 m pc ls (stk.map (cv ad))) (H := H) (locs := locs) (cells := n - n0) (slots := 6 * (n - n0)) (e := e) (below := below) (meth := meth) (R := R) ⟨hx, hb, hml, hown, hts⟩ (hM.2 l N0 Dg cy ad sv htr) (cwV na hts (GoodGW hw1) rfl rfl rfl ⟨rfl, hw2⟩ ⟨by show d' + 1 ≤ R.frames; omega, by show 8 + (maxL + 11) + 64 * d' ≤ R.locals; omega⟩) ⟨PcA.blind, va_recv hK hP hc hq0, fun U hU hW => PcA.at (as := .inr (.inr (c, z, 0)) :: as) C hR U hU hW⟩ rfl (by rw [List.length_map]; exact hna) hl.1 hstk (lv_room (by rw [catS_eq]; exact Nat.le_of_ble_eq_true hr)) hdg ⟨by omega, by omega⟩
  intro T9 hT X9
  rcases hrun T9 hT X9 with ⟨_, _, _, _, _, _, _, _, _, _, hF, _⟩ | ⟨q, st₀, t, T', L, E9, ce9, h0, X', hL, e1, e2, ⟨hE9, ad', hP', hD', hF', had', hkeep⟩, hq, hcv, hcl, go⟩
  · exact hF.elim
  · subst hE9
    have c1 : n - n0 + (n' - n) = n' - n0 := by omega
    have c2 : 6 * (n - n0) + 6 * (n' - n) = 6 * (n' - n0) := by omega
    rw [c1, c2] at X'
    have hS' : va_S (AN N0) s.heap T'.heap (locs ++ L) := by
      rw [e1]
      refine ⟨Nat.le_trans hS.1 (by rw [← h0]; exact hF'.1), fun q h1 h2 => ?_, fun q hq => ?_⟩
      · rw [hF'.2 q (by rw [h0]; exact Nat.lt_of_lt_of_le h1 hS.1) h2, h0]
        exact hS.2.1 q h1 h2
      · rcases List.mem_append.mp hq with h | h
        · exact hS.2.2 q h
        · exact hL q h
    have hout : vx_W p l e R s m args below meth co T'.heap (locs ++ L) (n' - n0) (6 * (n' - n0)) (vx_MQ below Qc XC args s (n' - n0) (6 * (n' - n0)) (AN N0)) (F0 m pc ls (st.map (cv ad))) q := by
      refine vx_out (E := exN ex) (ce := ce9) ?_ hlocks (by rw [e1]; exact hq) hcv hcl ?_ hS'.2.2 (Nat.le_refl _) (Nat.le_refl _)
      · rw [htb, hhn]
        intro x hx
        cases hx
      · intro t9 ht9 _
        refine hX ad' t9 ⟨by rw [ht9, e1]; exact hP', hD', hS'.F ht9, fun i hi => (had' i hi).trans (had i hi), fun h => ?_⟩
        have q1 : n' = n := by omega
        rw [hkeep q1]
        exact hk0 (by omega)
    obtain ⟨t2, a1, b1⟩ := hout T' rfl X'
    exact ⟨t2, go.trans a1, b1⟩
end Throws
