/-! numbers, towns, signs and codes in both -/
def pu (cd : Nat → Nat) (len op : Nat) : Nat → Nat := fun k => if k = len then op else cd k
theorem pu_at {cd : Nat → Nat} {len op : Nat} : pu cd len op len = op := if_pos rfl
theorem pu_ne {cd : Nat → Nat} {len op k : Nat} (h : k ≠ len) : pu cd len op k = cd k := if_neg h
theorem hg_ext {cd cd' : Nat → Nat} : ∀ m, (∀ k, k < m → cd k = cd' k) → hg cd m = hg cd' m
  | 0, _ => rfl
  | m + 1, h => by
    rw [hg, hg, hg_ext m (fun k hk => h k (by omega)), h m (by omega)]
theorem hg_pu {cd : Nat → Nat} {len op m : Nat} (h : m ≤ len) : hg (pu cd len op) m = hg cd m := hg_ext m (fun k hk => pu_ne (by omega))
def hgn (op h : Nat) : Nat := if op ≤ 10004 then h + 1 else if op = 10007 then h else h - 1
theorem hg_pus {cd : Nat → Nat} {len op : Nat} : hg (pu cd len op) (len + 1) = hgn op (hg cd len) := by
  rw [hg, pu_at, hg_pu (Nat.le_refl _)]; rfl
def okop (op h : Nat) : Prop := op ≤ 10013 ∧ h ≤ 40 ∧ (op ≤ 10004 → h < 40) ∧ (op = 10007 → 1 ≤ h) ∧ (10004 < op → op ≠ 10007 → 2 ≤ h)
theorem vk_pu {cd : Nat → Nat} {len op : Nat} (h : vk cd len) (hl : len < 600) (ho : okop op (hg cd len)) : vk (pu cd len op) (len + 1) := by
  refine ⟨hl, fun k hk => ?_⟩
  by_cases q : k = len
  · subst q; rw [pu_at, hg_pu (Nat.le_refl _)]; exact ho
  · rw [pu_ne q, hg_pu (by omega)]; exact h.2 k (by omega)
section
variable {X : PX} {I R : Mem} {b e k : Nat} {D : Dft} {cd : Nat → Nat} {len : Nat} {P : PMem}
theorem L_lay (A : Al X I R b e k D cd len) (hl : len < 600) {op : Nat} {v w : Int32} (hv : v = nI op) (hw : w = rs op) (ho : okop op (hg cd len)) : W2 (f_X4_add (pxd X) I v) (f_X8_lay R w) (fun I' R' => Al X I' R' b e k D (pu cd len op) (len + 1) ∧ hg (pu cd len op) (len + 1) = hgn op (hg cd len)) := by
  subst hv hw
  obtain ⟨⟨kc, kr⟩, ⟨p1, p2⟩, ⟨t1, t2, t3⟩, ⟨c1, c2, c3⟩, c4, c5, c6⟩ := A
  unfold f_X4_add f_X8_lay
  rw [c4.1, c5.1, show (600 : Int32) = nI 600 from rfl]
  refine w2_nl (nI_ge hl (by omega)) (w2_gdl (inb_n hl) (w2_pr t2.1 (w2_gdr ?_ ?_)))
  · rw [nI_add]; exact inb_n (by omega)
  rw [nI_add, nI_clamp (by omega), nI_clamp (by omega)]
  unfold bnd
  refine w2_some ⟨⟨⟨KC_up (KC_up kc (by unfold tCg; omega)) (by unfold tCg; omega), KR_up (KR_up kr (by unfold tRg; omega)) (by unfold tRg; omega)⟩, ⟨⟨?_, ?_⟩, ?_, ?_⟩, ⟨?_, ?_, t3⟩, ⟨CDf_e c1 (fun c hc h4 h41 => ?_), RDf_e c2 (fun i hi => ?_) (fun c hc hc2 => ?_), c3⟩, ⟨?_, fun k hk => ?_⟩, ⟨?_, fun k hk => ?_⟩, vk_pu c6 hl ho⟩, hg_pus⟩
  · rw [u_c (by omega), u_c (by omega)]; exact p1.1
  · rw [u_c (by omega), u_c (by omega)]; exact p1.2
  · rw [u_c (by omega), u_c (by omega)]; exact p2.1
  · rw [u_c (by omega), u_c (by omega)]; exact p2.2
  · unfold tkC; rw [u_c (by omega), u_c (by omega)]; exact t1
  · unfold tkR; rw [u_c (by omega), u_c (by omega)]; exact t2
  · rw [u_c h4, u_c h41]
  · rw [u5, if_neg hi, u_c (by omega)]
  · rw [u_c (by omega), u_c (by omega)]
  · rw [u_at, u_c (by omega), c4.1]; exact nI_1 len
  · rw [u_c (by omega)]
    by_cases q : k = len
    · subst q; rw [u_at, pu_at]
    · rw [u_ne (fun y => q y.2.2.2), pu_ne q]; exact c4.2 k (by omega)
  · rw [u_at, u_c (by omega), c5.1]; exact nI_1 len
  · rw [u_c (by omega)]
    by_cases q : k = len
    · subst q; rw [u_at, pu_at]
    · rw [u_ne (fun y => q (by omega)), pu_ne q]; exact c5.2 k (by omega)
theorem L_look (hX : POK X) (A : Al X I R b e k D cd len) {lo hi : Nat} (hl : lo < 10000) (hh : hi < 10000) {vl vh : Int32} (hvl : vl = nI lo) (hvh : vh = nI hi) : W2 (f_X5_lookAtNumber I vl vh) (f_X8_numberNow R vl vh) (fun a c => (∃ v, lo ≤ v ∧ v ≤ hi ∧ k = 2 ∧ a = (nI v, I) ∧ c = (nI v, R)) ∨ Dd X a.2 c.2 ∧ c.1 = 0) := by
  subst hvl hvh
  have hb := A_b A
  have tC := A.2.2.1.1
  have tR := A.2.2.1.2.1
  by_cases k2 : k = 2
  · have r1 := L_ref A (v := 2) (by decide)
    have dvb := dv_b (tb := pxt X) (b := b) (m := e - b)
    have t18 := tR.2.2.2.2.2 k2
    refine w2_sp (Q1 := fun r => (4 < e - b ∨ dv (pxt X) b (e - b) < lo ∨ hi < dv (pxt X) b (e - b)) ∧ f_X5_refuse I 2 = some r.2 ∨ (e - b ≤ 4 ∧ lo ≤ dv (pxt X) b (e - b) ∧ dv (pxt X) b (e - b) ≤ hi) ∧ r = (nI (dv (pxt X) b (e - b)), I))
      (Q2 := fun r => (4 < e - b ∨ dv (pxt X) b (e - b) < lo ∨ hi < dv (pxt X) b (e - b)) ∧ r = (0, rfR R 2) ∨ (e - b ≤ 4 ∧ lo ≤ dv (pxt X) b (e - b) ∧ dv (pxt X) b (e - b) ≤ hi) ∧ r = (nI (dv (pxt X) b (e - b)), R)) ?_ ?_ ?_
    · unfold f_X5_lookAtNumber
      refine wp_pos (by rw [Al_kc A, k2]; rfl) (wp_bnd ?_)
      rw [tC.2.2.2.1]
      exact c_look_23 hX.2.2 hX.2.1 A.2.1.1 tC.2.2.2.1 tC.2.2.2.2 k2 A.2.2.1.2.2 hl hh (e - b) FU b 0 (by omega) (by have := hX.2.1; unfold FU; omega) (Nat.le_refl b) (fun _ => by rw [Nat.sub_self]; rfl)
    · unfold f_X8_numberNow
      refine wp_pos tR.1 (wp_pos (by rw [Al_kr A, k2]; rfl) ?_)
      rw [tR.2.2.2.2.1, tR.2.2.1, pk_sub (by omega), t18]
      have bad : (4 < e - b ∨ dv (pxt X) b (e - b) < lo ∨ hi < dv (pxt X) b (e - b)) → wp (f_X8_numberNow_54 R) (fun r => (4 < e - b ∨ dv (pxt X) b (e - b) < lo ∨ hi < dv (pxt X) b (e - b)) ∧ r = (0, rfR R 2) ∨ (e - b ≤ 4 ∧ lo ≤ dv (pxt X) b (e - b) ∧ dv (pxt X) b (e - b) ≤ hi) ∧ r = (nI (dv (pxt X) b (e - b)), R)) := by
        intro q
        unfold f_X8_numberNow_54 f_X8_numberNow_59
        rw [r1.2.1, Option.bind_some, if_neg (Dd_r r1.2.2)]
        exact wp_some (Or.inl ⟨q, rfl⟩)
      have hn := hX.2.1
      refine wp_ite (fun z => bad (Or.inl ((nI_ltI (a := 4) (by omega) (by omega)).mp z))) (fun z => ?_)
      have z4 : ¬ 4 < e - b := fun y => z ((nI_ltI (a := 4) (by omega) (by omega)).mpr y)
      refine wp_ite (fun z => bad (Or.inr (Or.inl ((nI_ltI (by omega) (by omega)).mp z)))) (fun z => ?_)
      have z5 : ¬ dv (pxt X) b (e - b) < lo := fun y => z ((nI_ltI (by omega) (by omega)).mpr y)
      refine wp_ite (fun z => ?_) (fun z => bad (Or.inr (Or.inr ?_)))
      · unfold f_X8_numberNow_59
        rw [if_pos tR.1, t18]
        exact wp_some (Or.inr ⟨⟨by omega, by omega, (nI_leI (by omega) (by omega)).mp z⟩, rfl⟩)
      · have : ¬ dv (pxt X) b (e - b) ≤ hi := fun y => z ((nI_leI (by omega) (by omega)).mpr y)
        omega
    · rintro ⟨a1, a2⟩ c (⟨q, h1⟩ | ⟨q, h1⟩) (⟨q', h2⟩ | ⟨q', h2⟩)
      · right
        rw [r1.1] at h1
        have h1' : rfC I 2 = a2 := Option.some.inj h1
        subst h2 h1'
        exact ⟨r1.2.2, rfl⟩
      · exfalso; omega
      · exfalso; omega
      · exact Or.inl ⟨_, q.2.1, q.2.2, k2, h1, h2⟩
  · have r1 := L_ref A (v := 1) (by decide)
    unfold f_X5_lookAtNumber f_X8_numberNow
    rw [Al_kc A, Al_kr A]
    have kn : ¬ nI k = 2 := by rw [n_2, nI_eq (by omega) (by omega)]; exact k2
    refine w2_nl kn (w2_pr tR.1 (w2_nr kn (w2_lE _ r1.1 (w2_rE _ r1.2.1 ?_))))
    unfold f_X8_numberNow_59
    rw [if_neg (Dd_r r1.2.2)]
    exact w2_some (Or.inr ⟨r1.2.2, rfl⟩)
theorem L_take (hX : POK X) (A : Al X I R b e k D cd len) {lo hi : Nat} (hl : lo < 10000) (hh : hi < 10000) {vl vh : Int32} (hvl : vl = nI lo) (hvh : vh = nI hi) : W2 (f_X5_takeNumber I vl vh) (f_X8_readNumber R vl vh) (fun a c => (∃ v b' e' k', lo ≤ v ∧ v ≤ hi ∧ k = 2 ∧ a.1 = nI v ∧ c.1 = nI v ∧ Al X a.2 c.2 b' e' k' D cd len ∧ e ≤ b') ∨ Dd X a.2 c.2 ∧ c.1 = 0) := by
  unfold f_X5_takeNumber f_X8_readNumber
  refine w2_bb (L_look hX A hl hh hvl hvh) ?_
  rintro a c (⟨v, h1, h2, h3, rfl, rfl⟩ | ⟨dd, h0⟩)
  · refine w2_pr (Al_r A) (w2_bb (L_adv hX A) ?_)
    rintro I' R' ⟨b', e', k', A', hb⟩
    exact w2_some (Or.inl ⟨v, b', e', k', h1, h2, h3, rfl, rfl, A', hb⟩)
  · refine w2_lE _ (d_adv (Dd_c dd)) (w2_nr (Dd_r dd) (w2_some (Or.inr ⟨dd, h0⟩)))
theorem L_town (hX : POK X) (hP : P 5 0 0 4 = pxd X) (A : Al X I R b e k D cd len) : W2 (f_X5_lookAtTown P I) (f_X8_townNow R) (fun a c => (∃ t, t < dT D ∧ k = 2 ∧ a = (nI t, I) ∧ c = (nI t, R)) ∨ Dd X a.2 c.2 ∧ a.1 = -1 ∧ c.1 = 0) := by
  have hT := A.2.2.2.1.2.2.1.1
  unfold f_X5_lookAtTown f_X8_townNow
  refine w2_bb (L_look hX A (lo := 0) (hi := 9999) (by omega) (by omega) rfl rfl) ?_
  rintro a c (⟨v, h1, h2, h3, rfl, rfl⟩ | ⟨dd, h0⟩)
  · refine w2_gdl (dlt (by rw [hP]; exact hX.1)) (w2_pr (Al_r A) ?_)
    show W2 (if nI v < I 3 (P 5 0 0 4) 0 0 then _ else _) (if nI v < R 50 0 0 7 then _ else _) _
    rw [hP, A.2.2.2.1.1.1.1, A.2.2.2.1.2.1.1.1]
    by_cases q : v < dT D
    · have q' : nI v < nI (dT D) := nI_lt q (by omega)
      refine w2_pl q' (w2_pr q' ?_)
      unfold f_X5_lookAtTown_25 f_X8_townNow_32
      exact w2_pl (Al_c A) (w2_pr (Al_r A) (w2_some (Or.inl ⟨v, q, h3, rfl, rfl⟩)))
    · have q' : ¬ nI v < nI (dT D) := nI_nlt (by omega) (by omega)
      have r1 := L_ref A (v := 3) (by decide)
      refine w2_nl q' (w2_nr q' (w2_lE _ r1.1 (w2_rE _ r1.2.1 ?_)))
      unfold f_X5_lookAtTown_25 f_X8_townNow_32
      exact w2_nl (Dd_c r1.2.2) (w2_nr (Dd_r r1.2.2) (w2_some (Or.inr ⟨r1.2.2, rfl, rfl⟩)))
  · refine w2_gdl (dlt (by rw [hP]; exact hX.1)) (w2_nr (Dd_r dd) ?_)
    unfold f_X8_townNow_32
    refine w2_nr (Dd_r dd) ?_
    rw [d_ref (Dd_c dd), Option.bind_some]
    unfold f_X5_lookAtTown_25
    rw [if_neg (Dd_c dd)]
    split <;> exact w2_some (Or.inr ⟨dd, rfl, rfl⟩)
theorem L_tsign (hX : POK X) (A : Al X I R b e k D cd len) {c : Nat} (hc : c < 128) {v : Int32} (hv : v = nI c) : W2 (f_X5_takeSign I v) (f_X8_mark R v) (fun I' R' => (∃ b' e' k', Al X I' R' b' e' k' D cd len ∧ e ≤ b' ∧ b < b') ∨ Dd X I' R') := by
  subst hv
  have s := L_sign hX A hc
  have hb := A_b A
  unfold f_X5_takeSign f_X8_mark f_X5_takeSign_13 f_X8_mark_20
  refine w2_pr (Al_r A) (w2_lE _ s.1 (w2_rE _ s.2 ?_))
  cases h : sI (pxt X) k b c
  · have r1 := L_ref A (v := 1) (by decide)
    refine w2_pl rfl (w2_pr rfl (w2_lE _ r1.1 (w2_rE _ r1.2.1 (w2_lE _ (d_adv (Dd_c r1.2.2)) (w2_nr (Dd_r r1.2.2) (w2_some (Or.inr r1.2.2)))))))
  · refine w2_nl (by decide) (w2_nr (by decide) (w2_pr (Al_r A) (w2_bb (L_adv hX A) ?_)))
    rintro I' R' ⟨b', e', k', A', hb'⟩
    unfold sI at h
    simp only [Bool.and_eq_true, decide_eq_true_eq] at h
    have := hb.2.2.2.2.2 (by omega)
    exact w2_some (Or.inl ⟨b', e', k', A', hb', by omega⟩)
end
