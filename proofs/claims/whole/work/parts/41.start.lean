theorem st_w {args : Array Value} {s : State} (hts : ∀ w ∈ lw_tbl, w.before args s = true) {w : Cond} (i : Nat) (h : lw_tbl[i]? = some w) : w.before args s = true := hts _ (List.mem_of_getElem? h)
theorem st_G {args : Array Value} {s : State} (hts : ∀ w ∈ lw_tbl, w.before args s = true) : ∀ w ∈ GW, w.before args s = true := fun w hw => hts w (List.mem_filter.mp hw).1
theorem st_N {args : Array Value} {s : State} (hts : ∀ w ∈ lw_tbl, w.before args s = true) : NestX s :=
  ⟨va_Nw.of rfl (st_w hts 137 (by decide +kernel)), va_Nw.of rfl (st_w hts 145 (by decide +kernel)), va_Nw.of rfl (st_w hts 286 (by decide +kernel)), st_w hts 142 (w := .arrayOver (.array .int)) (by decide +kernel), va_AO.of (st_w hts 1213 (by decide +kernel))⟩
theorem st_K {args : Array Value} {s : State} (hts : ∀ w ∈ lw_tbl, w.before args s = true) : ∃ (Dg : va_G) (cy : Nat → ClassId), va_K Dg classes (tys cy) s := by
  have hG := st_G hts
  have hN := st_N hts
  have k0 := u_known hG iX0 (hG _ wi_0)
  have k1 := u_known hG iX1 (hG _ wi_1)
  have k2 := u_known hG iX2 (hG _ wi_2)
  have k3 := u_known hG iX3 (hG _ wi_3)
  have k4 := u_known hG iX4 (hG _ wi_4)
  have k5 := u_known hG iX5 (hG _ wi_5)
  have k6 := u_known hG iX6 (hG _ wi_6)
  have k7 := u_known hG iX7 (hG _ wi_7)
  have k8 := u_known hG iX8 (hG _ wi_8)
  have hall : ∀ c : Nat, ∃ x : ClassId × (Nat → Nat), ∀ q : vw_C, classes[c]? = some q → u_Kn s q.1 q.2.1 q.2.2 x.1 x.2 := by
    have key : ∀ (c : Nat) (q0 : vw_C), classes[c]? = some q0 → (∃ (cC : ClassId) (iS : Nat → Nat), u_Kn s q0.1 q0.2.1 q0.2.2 cC iS) → ∃ x : ClassId × (Nat → Nat), ∀ q : vw_C, classes[c]? = some q → u_Kn s q.1 q.2.1 q.2.2 x.1 x.2 := by
      intro c q0 h0 ⟨a, b, h⟩
      refine ⟨(a, b), fun q hq => ?_⟩
      rw [h0] at hq
      cases hq
      exact h
    intro c
    rcases c with _ | _ | _ | _ | _ | _ | _ | _ | _ | c
    · exact key 0 _ kX0 k0
    · exact key 1 _ kX1 k1
    · exact key 2 _ kX2 k2
    · exact key 3 _ kX3 k3
    · exact key 4 _ kX4 k4
    · exact key 5 _ kX5 k5
    · exact key 6 _ kX6 k6
    · exact key 7 _ kX7 k7
    · exact key 8 _ kX8 k8
    · exact ⟨(0, fun _ => 0), fun q hq => by cases hq⟩
  obtain ⟨D, hD⟩ := Classical.axiomOfChoice hall
  obtain ⟨c0, a0, b0, f0, g0, h0⟩ := Cond.arrayClass_spec (st_w hts 163 (w := .arrayClass .int) (by decide +kernel))
  obtain ⟨c1, a1, b1, f1, g1, h1⟩ := Cond.arrayClass_spec (st_w hts 162 (w := .arrayClass .byte) (by decide +kernel))
  obtain ⟨b2, c2, a2, d2, e2, g2, h2, f2⟩ := hN.2.2.2.1.spec
  obtain ⟨b3, c3, a3, d3, e3, g3, h3, f3⟩ := Cond.arrayOver_spec hN.2.2.2.2
  obtain ⟨c4, a4, b4, f4, g4, h4⟩ := Cond.arrayClass_spec (st_w hts 1826 (w := .arrayClass .long) (by decide +kernel))
  refine ⟨(fun c => (D c).1, fun c => (D c).2), fun k => nth 0 [c0, c1, c2, c3, c4] k, fun c q hq => hD c q hq, fun k q hq => ?_⟩
  have hk : k < 5 := (List.getElem?_eq_some_iff.mp hq).1
  have hc : k = 0 ∨ k = 1 ∨ k = 2 ∨ k = 3 ∨ k = 4 := by omega
  rcases hc with rfl | rfl | rfl | rfl | rfl <;> cases hq
  · exact ⟨fun n z => ⟨fun k h => (by cases h), a0, g0, b0, h0⟩, f0⟩
  · exact ⟨fun n z => ⟨fun k h => (by cases h), a1, g1, b1, h1⟩, f1⟩
  · exact ⟨fun n z => ⟨fun k h => (by cases h), a2, g2, b2, h2⟩, f2⟩
  · exact ⟨fun n z => ⟨fun k h => (by cases h), a3, g3, b3, h3⟩, a3, b3, g3, h3, d3, f3⟩
  · exact ⟨fun n z => ⟨fun k h => (by cases h), a4, g4, b4, h4⟩, f4⟩
theorem st_E {args : Array Value} {s : State} (hts : ∀ w ∈ lw_tbl, w.before args s = true) (hgv : (Jvm.Cond.and given_1 narrow_1).before args s = true) : ∃ sa sv : Nat → Nat, Ext s s.heap.size sa sv := by
  have hfl : ∀ w ∈ FC, w.before args s = true := flat_of_before _ hgv
  have hA : ∀ a : Nat, a < s.heap.size → ¬ AN s.heap.size a := fun a h h2 => Nat.not_lt.mpr h2 h
  obtain ⟨sa, sv, hS, hR⟩ := str_of hfl hA
  have fw : ∀ {w : Cond} (i : Nat), FC[i]? = some w → w.before args s = true := fun i h => hfl _ (List.mem_of_getElem? h)
  refine ⟨sa, sv, str_R hts hfl hR, hS, ?_, ?_, ?_, ?_, ?_, ?_, ?_⟩
  · exact vx_Zqof (st_w hts 538 (by decide +kernel)) (hts _ (by decide +kernel)) (fw 4 (by decide +kernel)) hA
  · exact vx_Zqof (st_w hts 540 (by decide +kernel)) (hts _ (by decide +kernel)) (fw 5 (by decide +kernel)) hA
  · exact va_Zof (st_w hts 618 (by decide +kernel)) (hts _ (by decide +kernel)) (va_eqt (fw 6 (by decide +kernel))) hA
  · exact va_Zqof (st_w hts 634 (by decide +kernel)) (hts _ (by decide +kernel)) (fw 7 (by decide +kernel)) hA
  · intro k
    cases k with
    | zero => exact va_Nw.of rfl (st_w hts 513 (by decide +kernel))
    | succ k => exact va_Nw.of (w := .castable "java/util/NoSuchElementException" "java/util/NoSuchElementException") rfl (st_w hts 905 (by decide +kernel))
  · intro Y hY
    have hc : Y = "java/lang/RuntimeException" ∨ Y = "java/lang/Exception" ∨ Y = "java/lang/Throwable" := by simpa [exY] using hY
    rcases hc with rfl | rfl | rfl
    · exact va_Nw.of rfl (st_w hts 515 (by decide +kernel))
    · exact va_Nw.of rfl (st_w hts 517 (by decide +kernel))
    · exact va_Nw.of rfl (st_w hts 519 (by decide +kernel))
  · exact va_Nc.of (fw 29 (by decide +kernel))
