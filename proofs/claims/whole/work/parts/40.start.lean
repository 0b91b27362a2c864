/-! the start: what the Statement gives -/
theorem flag_tr {l : Launch} (hf : l.flags = flags0) : l.stackTraces = false := by
  unfold Launch.stackTraces
  rw [hf]
  decide
def strM : List (String × Nat) := [(RX5, 74), (RX5, 80), (RX5, 82), (RX5, 206), (RX5, 208), (RX5, 209), (RX5, 55), (RX5, 211), (RX5, 187), (RX7, 212), (RX5, 84), (RX5, 69), (RX5, 104), (RX5, 89), (RX7, 322), (RX7, 146), (RX7, 320), (RX7, 182), (RX7, 318), (RX7, 324), (RX5, 189), (RX7, 293), (RX5, 179), (RX5, 64), (RX7, 67)]
def strI : List Nat := [98, 107, 115, 145, 154, 163, 65, 170, 178, 289, 123, 88, 73, 131, 273, 191, 240, 257, 208, 224, 138, 311, 185, 80, 31]
def strW : List (Nat × Nat) := [(551, 0), (604, 0), (665, 0), (666, 0), (687, 0), (692, 0), (701, 0), (702, 0), (703, 0), (712, 0), (737, 0), (762, 0), (763, 0), (764, 0), (765, 0), (770, 0), (771, 0), (912, 0), (930, 0), (937, 0), (949, 0), (961, 0), (981, 0), (1000, 0), (1184, 0), (1214, 341), (1215, 350), (1216, 359), (1217, 369), (1218, 379), (1219, 387), (1220, 396), (1221, 405), (1451, 416), (1458, 424), (1491, 432), (1512, 440), (1513, 447), (1533, 455), (1534, 464), (1539, 473)]
def tmS (i : Nat) : Term := .string (strM.getD i ("", 0)).1 (strM.getD i ("", 0)).2
def FC : List Cond := flatC (Jvm.Cond.and given_1 narrow_1)
theorem fc_ex : ∀ i, i < 25 → FC[strI.getD i 0]? = some (.exactly (tmS i) "java/lang/String") := by decide +kernel
theorem fc_co : ∀ i, i < 25 → FC[strI.getD i 0 + 1]? = some (.eq (.field (tmS i) "java/lang/String" "coder" "B") (.int 0)) := by decide +kernel
theorem fc_ar : ∀ i, i < 25 → FC[strI.getD i 0 + 2]? = some (.arrayOf (.field (tmS i) "java/lang/String" "value" "[B") .byte) := by decide +kernel
theorem fc_le : ∀ i, i < 25 → FC[strI.getD i 0 + 3]? = some (.eq (.length (.field (tmS i) "java/lang/String" "value" "[B")) (.int (Int32.ofNat (strL.getD i 0)))) := by decide +kernel
theorem fc_el : ∀ i, i < 25 → ∀ j, j < strL.getD i 0 → FC[strI.getD i 0 + 4 + j]? = some (.eq (.elem (.field (tmS i) "java/lang/String" "value" "[B") (.int (Int32.ofNat j))) (.int ((strB.getD i []).getD j 0))) := by decide +kernel
theorem fc_dj : ∀ i, i < 25 → ∀ j, j < 25 → i ≠ j → strL.getD i 0 ≠ strL.getD j 0 ∨ ∃ k, k < strL.getD i 0 ∧ (strB.getD i []).getD k 0 ≠ (strB.getD j []).getD k 0 := by decide +kernel
theorem fc_sw : ∀ k, k < 41 → lw_tbl[(strW.getD k (0, 0)).1]? = some (.stringRef (strT.getD k ("", 0, "", 0)).1 (strT.getD k ("", 0, "", 0)).2.1 (strT.getD k ("", 0, "", 0)).2.2.1) := by decide +kernel
theorem fc_se : ∀ k, k < 41 → ((strW.getD k (0, 0)).2 = 0 → tmS (strT.getD k ("", 0, "", 0)).2.2.2 = .string (strT.getD k ("", 0, "", 0)).1 (strT.getD k ("", 0, "", 0)).2.1) ∧ ((strW.getD k (0, 0)).2 ≠ 0 → FC[(strW.getD k (0, 0)).2]? = some (.eq (tmS (strT.getD k ("", 0, "", 0)).2.2.2) (.string (strT.getD k ("", 0, "", 0)).1 (strT.getD k ("", 0, "", 0)).2.1))) := by decide +kernel
theorem eq_refs {args : Array Value} {s : State} {t1 t2 : Term} {a : Nat} (h : (Cond.eq t1 t2).before args s = true) (h1 : t1.eval args s none [] s = some (.ref a)) : t2.eval args s none [] s = some (.ref a) := by
  unfold Cond.before Cond.holds at h
  simp only [Cond.value, h1] at h
  cases h2 : t2.eval args s none [] s with
  | none => simp [h2] at h
  | some v => cases v <;> simp_all
theorem str_of {args : Array Value} {s : State} {A : Nat → Prop} (hfl : ∀ w ∈ FC, w.before args s = true) (hA : ∀ a : Nat, a < s.heap.size → ¬ A a) : ∃ adK adV : Nat → Nat, vk_S nStr strL strB adK adV A s s.heap ∧ ∀ i : Nat, i < 25 → (tmS i).eval args s none [] s = some (.ref (adK i)) := by
  have hex : ∀ i, i < 25 → (Cond.exactly (tmS i) "java/lang/String").before args s = true := fun i hi => hfl _ (List.mem_of_getElem? (fc_ex i hi))
  have hco : ∀ i, i < 25 → (Cond.eq (.field (tmS i) "java/lang/String" "coder" "B") (.int 0)).before args s = true := fun i hi => hfl _ (List.mem_of_getElem? (fc_co i hi))
  have har : ∀ i, i < 25 → (Cond.arrayOf (.field (tmS i) "java/lang/String" "value" "[B") .byte).before args s = true := fun i hi => hfl _ (List.mem_of_getElem? (fc_ar i hi))
  have hle : ∀ i, i < 25 → (Cond.eq (.length (.field (tmS i) "java/lang/String" "value" "[B")) (.int (Int32.ofNat (strL.getD i 0)))).before args s = true := fun i hi => hfl _ (List.mem_of_getElem? (fc_le i hi))
  have hel : ∀ i, i < 25 → ∀ j, j < strL.getD i 0 → (Cond.eq (.elem (.field (tmS i) "java/lang/String" "value" "[B") (.int (Int32.ofNat j))) (.int ((strB.getD i []).getD j 0))).before args s = true := fun i hi j hj => hfl _ (List.mem_of_getElem? (fc_el i hi j hj))
  have hN : ∀ i, i < 25 → strL.getD i 0 < 2 ^ 31 := by decide +kernel
  have h0 : ∀ i : Nat, ∃ q : Nat × Nat, i < 25 → (tmS i).eval args s none [] s = some (.ref q.1) ∧ va_O "java/lang/String" q.1 A s s.heap ∧ va_OF "java/lang/String" "coder" "B" (.int 0) q.1 A s s.heap ∧ va_OF "java/lang/String" "value" "[B" (.ref q.2) q.1 A s s.heap ∧ va_T .byte q.2 (strL.getD i 0) (fun j => .int ((strB.getD i []).getD j 0)) A s s.heap := by
    intro i
    by_cases hi : i < 25
    · obtain ⟨a, c, cA, kA, q1, q2, q3, q4, q5, q6, -⟩ := Cond.exactly_spec (args := args) (first := s) (o := none) (s := s) (idx := []) (t := tmS i) (cls := "java/lang/String") (hex i hi)
      obtain ⟨t, ht, hT⟩ := va_Tof (f := fun j => .int ((strB.getD i []).getD j 0)) (A := A) (hN i hi) (har i hi) (va_eqt (hle i hi)) (fun j hj => va_eqt (hel i hi j hj)) hA
      exact ⟨(a, t), fun _ => ⟨q1, ⟨cA, q3, q5, by rw [q6]; exact q2, hA a (Array.getElem?_eq_some_iff.mp q3).1⟩, vk_OFof q1 (va_eqt (hco i hi)) hA, vk_OFof q1 ht hA, hT⟩⟩
    · exact ⟨(0, 0), fun h => absurd h hi⟩
  obtain ⟨ad, had⟩ := Classical.axiomOfChoice h0
  refine ⟨fun i => (ad i).1, fun i => (ad i).2, ⟨fun i hi => (had i hi).2, fun i j hi hj e => ?_⟩, fun i hi => (had i hi).1⟩
  have e : (ad i).1 = (ad j).1 := e
  by_cases hij : i = j
  · exact hij
  · exfalso
    have hi' : i < 25 := hi
    have hj' : j < 25 := hj
    have hf : (Term.field (tmS i) "java/lang/String" "value" "[B").eval args s none [] s = (Term.field (tmS j) "java/lang/String" "value" "[B").eval args s none [] s := by
      rw [va_fe (had i hi').1, va_fe (had j hj').1, e]
    have hl1 := va_eqt (hle i hi')
    have hl2 := va_eqt (hle j hj')
    have hll : (Term.length (Term.field (tmS i) "java/lang/String" "value" "[B")).eval args s none [] s = (Term.length (Term.field (tmS j) "java/lang/String" "value" "[B")).eval args s none [] s := by
      unfold Term.eval
      rw [hf]
    rw [hl1, hl2] at hll
    have hlen : strL.getD i 0 = strL.getD j 0 := by
      have h3 : Int32.ofNat (strL.getD i 0) = Int32.ofNat (strL.getD j 0) := by
        have := Option.some.inj hll
        injection this
      have h4 := congrArg Int32.toInt h3
      rw [Int32.toInt_ofNat_of_lt (hN i hi'), Int32.toInt_ofNat_of_lt (hN j hj')] at h4
      omega
    rcases fc_dj i hi' j hj' hij with h | ⟨k, hk, h⟩
    · exact h hlen
    · have he1 := va_eqt (hel i hi' k hk)
      have he2 := va_eqt (hel j hj' k (by omega))
      have hee : (Term.elem (Term.field (tmS i) "java/lang/String" "value" "[B") (.int (Int32.ofNat k))).eval args s none [] s = (Term.elem (Term.field (tmS j) "java/lang/String" "value" "[B") (.int (Int32.ofNat k))).eval args s none [] s := by
        unfold Term.eval
        rw [hf]
      rw [he1, he2] at hee
      apply h
      have := Option.some.inj hee
      injection this
theorem strT_len : strT.length = 41 := by decide
theorem str_R {args : Array Value} {s : State} {adK : Nat → Nat} (hts : ∀ w ∈ lw_tbl, w.before args s = true) (hfl : ∀ w ∈ FC, w.before args s = true) (h : ∀ i : Nat, i < 25 → (tmS i).eval args s none [] s = some (.ref (adK i))) : ∀ q ∈ strT, vk_R q.1 q.2.1 q.2.2.1 (adK q.2.2.2) s := by
  intro q hq
  obtain ⟨k, hk, rfl⟩ := List.mem_iff_getElem.mp hq
  have hk' : k < 41 := by rw [strT_len] at hk; exact hk
  have hg : strT.getD k ("", 0, "", 0) = strT[k] := by rw [List.getD_eq_getElem?_getD, List.getElem?_eq_getElem hk]; rfl
  have h1 := hts _ (List.mem_of_getElem? (fc_sw k hk'))
  have h2 := fc_se k hk'
  have hj : ∀ k, k < 41 → (strT.getD k ("", 0, "", 0)).2.2.2 < 25 := by decide +kernel
  have h3 := h _ (hj k hk')
  rw [hg] at h1 h2 h3
  refine vk_R.of h1 ?_
  by_cases hz : (strW.getD k (0, 0)).2 = 0
  · have e9 := h2.1 hz
    rw [e9] at h3
    exact h3
  · exact eq_refs (hfl _ (List.mem_of_getElem? (h2.2 hz))) h3
