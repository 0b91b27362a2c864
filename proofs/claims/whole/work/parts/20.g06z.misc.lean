section ThrowsS
variable {X : CX} {cc : ByteArray} {own : String} {mL : Nat} {ret : Option FieldType} {d nm pc : Nat} {lo : List (Option AV)} {st stk : List AV} {I I' : Mem} {P P' : PMem} {O O' : Nat → Int64} {D D' : Bool} {n n' : Nat} {Q : State → Prop}
theorem h_callSX {y : MethodName} {bytes : ByteArray} {maxL d' idx na ex : Nat} {rt : Option FieldType} {as : List AV} (hM : MethX y bytes maxL rt d' as I P O D n ex I' P' O' D' n') (hw : CWS own idx y bytes maxL rt na) (hdg : decode cc pc = .ok (.invokestatic idx, 3))
    (hna : as.length = na) (hd : d' + 1 ≤ d) (hr : Nat.ble (catS st) 8 = true) (hst : stk = as.reverse ++ st)
    (E : EndX X cc own mL ret d n' ex I' P' O' D' Q) : Here X cc own mL ret d n' pc lo stk I P O D n Q := by
  obtain ⟨p, l, e, R, s, m, args, below, meth, co, Dg, cy, N0, n0, ad0, sv, hh⟩ := X
  obtain ⟨hw1, hw2, hmL⟩ := hw
  have hnn := hM.1
  refine ⟨hnn, fun C ad H locs ls hR => ?_⟩
  obtain ⟨hhn, Qc, XC, rfl, hX⟩ := E C
  obtain ⟨hx, hb, hml, hret, hlocks, hown, hts, hK, hN, hfr, hlo, hce, hsl, htr, htb, hE⟩ := id C
  obtain ⟨hP, hD, hS, hl, hn0, had, hk0⟩ := id hR
  have hstk : (F0 m pc ls (stk.map (cv ad))).stack = (as.map (cv ad)).reverse ++ st.map (cv ad) := by
    show stk.map (cv ad) = _
    rw [hst, List.map_append, List.map_reverse]
  have hrun := vx_runS (As := as.map (cv ad)) (rest := st.map (cv ad)) (g := F0 m pc ls (stk.map (cv ad))) (H := H) (locs := locs) (cells := n - n0) (slots := 6 * (n - n0)) (e := e) (below := below) (meth := meth) (R := R) ⟨hx, hb, hml, hown, hts⟩ (hM.2 l N0 Dg cy ad sv htr) (va_cwS na hts (GoodGW hw1) rfl rfl rfl hw2 ⟨by show d' + 1 ≤ R.frames; omega, by show 8 + (maxL + 11) + 64 * d' ≤ R.locals; omega⟩) ⟨PcA.blind, fun U hU hW => PcA.at C hR U hU hW⟩ rfl (by rw [List.length_map]; exact hna) hl.1 hstk (lv_room (by rw [catS_eq]; exact Nat.le_of_ble_eq_true hr)) hdg ⟨by omega, by omega⟩
  intro T9 hT X9
  rcases hrun T9 hT X9 with ⟨_, _, _, _, _, _, _, _, _, _, hF, _⟩ | ⟨q, st₀, t, T', L, E9, ce9, h0, X', hL, e1, e2, ⟨hE9, ad', hP', hD', hF', had', hkeep⟩, hq, hcv, hcl, go⟩
  · exact hF.elim
  · subst hE9
    have c1 : n - n0 + (n' - n) = n' - n0 := by omega
    have c2 : 6 * (n - n0) + 6 * (n' - n) = 6 * (n' - n0) := by omega
    rw [c1, c2] at X'
    have hS' : va_S (AN N0) s.heap T'.heap (locs ++ L) := by
      rw [e1]
      refine ⟨Nat.le_trans hS.1 (by rw [← h0]; exact hF'.1), fun q h1 h2 => ?_, fun q hq => ?_⟩
      · rw [hF'.2 q (by rw [h0]; exact Nat.lt_of_lt_of_le h1 hS.1) h2, h0]
        exact hS.2.1 q h1 h2
      · rcases List.mem_append.mp hq with h | h
        · exact hS.2.2 q h
        · exact hL q h
    have hout : vx_W p l e R s m args below meth co T'.heap (locs ++ L) (n' - n0) (6 * (n' - n0)) (vx_MQ below Qc XC args s (n' - n0) (6 * (n' - n0)) (AN N0)) (F0 m pc ls (st.map (cv ad))) q := by
      refine vx_out (E := exN ex) (ce := ce9) ?_ hlocks (by rw [e1]; exact hq) hcv hcl ?_ hS'.2.2 (Nat.le_refl _) (Nat.le_refl _)
      · rw [htb, hhn]
        intro x hx
        cases hx
      · intro t9 ht9 _
        refine hX ad' t9 ⟨by rw [ht9, e1]; exact hP', hD', hS'.F ht9, fun i hi => (had' i hi).trans (had i hi), fun h => ?_⟩
        have q1 : n' = n := by omega
        rw [hkeep q1]
        exact hk0 (by omega)
    obtain ⟨t2, a1, b1⟩ := hout T' rfl X'
    exact ⟨t2, go.trans a1, b1⟩
end ThrowsS
