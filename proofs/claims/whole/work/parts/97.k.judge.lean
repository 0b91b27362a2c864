/-! lines: judges -/
section
variable {X : PX} {I R I' R' : Mem} {b e k : Nat} {D : Dft} {cd : Nat → Nat} {len : Nat} {P : PMem}
def Fc (I I' R R' : Mem) : Prop := (∀ c, c ≠ 5 → I' c = I c) ∧ ∀ c, c ≠ 8 → R' c = R c
theorem L_advF (hX : POK X) (A : Al X I R b e k D cd len) : W2 (f_X5_advance I) (f_X8_stepOn R) (fun I' R' => ∃ b' e' k', Al X I' R' b' e' k' D cd len ∧ e ≤ b' ∧ Fc I I' R R') := by
  obtain ⟨I1, R1, h1, h2, b', e', k', A', hb⟩ := L_adv hX A
  have q := tkO_b A.2.2.1.2.2
  obtain ⟨I2, h3, E⟩ := c_adv hX.2.2 hX.2.1 q.2.1 A.2.1.1 A.2.2.1.1.1 A.2.2.1.1.2.2.2.2
  obtain ⟨R2, h4, E'⟩ := r_step hX.2.2 hX.2.1 q.2.1 A.2.1.2 A.2.2.1.2.1.2.2.2.1
  have x1 : I1 = I2 := Option.some.inj (h1.symm.trans h3)
  have x2 : R1 = R2 := Option.some.inj (h2.symm.trans h4)
  subst x1 x2
  exact ⟨I1, R1, h1, h2, b', e', k', A', hb, E.1.1, E'.1.1⟩
theorem L_takeF (hX : POK X) (A : Al X I R b e k D cd len) {lo hi : Nat} (hl : lo < 10000) (hh : hi < 10000) {vl vh : Int32} (hvl : vl = nI lo) (hvh : vh = nI hi) : W2 (f_X5_takeNumber I vl vh) (f_X8_readNumber R vl vh) (fun a c => (∃ v b' e' k', lo ≤ v ∧ v ≤ hi ∧ k = 2 ∧ a.1 = nI v ∧ c.1 = nI v ∧ Al X a.2 c.2 b' e' k' D cd len ∧ e ≤ b' ∧ Fc I a.2 R c.2) ∨ Dd X a.2 c.2 ∧ c.1 = 0) := by
  unfold f_X5_takeNumber f_X8_readNumber
  refine w2_bb (L_look hX A hl hh hvl hvh) ?_
  rintro a c (⟨v, h1, h2, h3, rfl, rfl⟩ | ⟨dd, h0⟩)
  · refine w2_pr (Al_r A) (w2_bb (L_advF hX A) ?_)
    rintro I' R' ⟨b', e', k', A', hb, F⟩
    exact w2_some (Or.inl ⟨v, b', e', k', h1, h2, h3, rfl, rfl, A', hb, F⟩)
  · refine w2_lE _ (d_adv (Dd_c dd)) (w2_nr (Dd_r dd) (w2_some (Or.inr ⟨dd, h0⟩)))
theorem u_r {c z r i r' i' : Nat} {v : Int32} (h : ¬ (r' = r ∧ i' = i)) : upd4 I c z r i v c z r' i' = I c z r' i' := by rw [u_if, if_neg h]
/-- writing a judge that is not yet told -/
theorem Al_cj (A : Al X I R b e k D cd len) {c : Nat} {v : Int32} (hc : c = 33 ∨ c = 34 ∨ c = 35 ∨ c = 36) : Al X (upd4 I c (pxd X) 0 (dJ D) v) R b e k D cd len := by
  have A0 := A
  obtain ⟨⟨kc, kr⟩, _, _, ⟨⟨c1, c2, c3, c4⟩, r, o⟩, _⟩ := A
  refine Al_up A0 (KC_up kc (by unfold tCg; omega)) kr (u_c (by omega)) (u_c (by omega)) (u_c (by omega)) (u_c (by omega)) rfl rfl rfl rfl ⟨?_, ?_, fun j hj => ?_, ?_⟩ r o
  · rw [u_c (by omega)]; exact c1
  · rw [u_c (by omega)]; exact c2
  · have z := c3 j hj
    rcases hc with rfl | rfl | rfl | rfl
    · rw [u_r (by omega), u_c (by omega), u_c (by omega), u_c (by omega)]; exact z
    · rw [u_r (by omega), u_c (by omega), u_c (by omega), u_c (by omega)]; exact z
    · rw [u_r (by omega), u_c (by omega), u_c (by omega), u_c (by omega)]; exact z
    · rw [u_r (by omega), u_c (by omega), u_c (by omega), u_c (by omega)]; exact z
  · rw [u_c (by omega), u_c (by omega)]; exact c4
theorem Al_c38 (A : Al X I R b e k D cd len) {i : Nat} {v : Int32} : Al X (upd4 I 38 (pxd X) (dJ D) i v) R b e k D cd len := by
  have A0 := A
  obtain ⟨⟨kc, kr⟩, _, _, ⟨⟨c1, c2, c3, c4, c5⟩, r, o⟩, _⟩ := A
  refine Al_up A0 (KC_up kc (by unfold tCg; omega)) kr (u_c (by omega)) (u_c (by omega)) (u_c (by omega)) (u_c (by omega)) rfl rfl rfl rfl ⟨?_, ?_, ?_, fun j hj i hi => ?_, ?_⟩ r o
  · rw [u_c (by omega)]; exact c1
  · rw [u_c (by omega)]; exact c2
  · rw [u_c (by omega), u_c (by omega), u_c (by omega), u_c (by omega)]; exact c3
  · rw [u_r (by omega)]; exact c4 j hj i hi
  · rw [u_c (by omega)]; exact c5
theorem Al_rj (A : Al X I R b e k D cd len) {c : Nat} {v : Int32} (hc : c = 52 ∨ c = 53 ∨ c = 54 ∨ c = 55) : Al X I (upd4 R c 0 0 (5 + dJ D) v) b e k D cd len := by
  have A0 := A
  obtain ⟨⟨kc, kr⟩, _, _, ⟨cc, ⟨c1, c2, c3, c4⟩, o⟩, _⟩ := A
  refine Al_up A0 kc (KR_up kr (by unfold tRg; omega)) rfl rfl rfl rfl (u_c (by omega)) (u_c (by omega)) (by rw [u_c (by omega)]) (u_c (by omega)) cc ⟨?_, ?_, fun j hj => ?_, ?_⟩ o
  · rw [u_c (by omega)]; exact c1
  · rw [u_c (by omega)]; exact c2
  · have z := c3 j hj
    rcases hc with rfl | rfl | rfl | rfl
    · rw [u_r (by omega), u_c (by omega), u_c (by omega), u_c (by omega)]; exact z
    · rw [u_r (by omega), u_c (by omega), u_c (by omega), u_c (by omega)]; exact z
    · rw [u_r (by omega), u_c (by omega), u_c (by omega), u_c (by omega)]; exact z
    · rw [u_r (by omega), u_c (by omega), u_c (by omega), u_c (by omega)]; exact z
  · rw [u_c (by omega), u_c (by omega)]; exact c4
theorem Al_r56 (A : Al X I R b e k D cd len) {i : Nat} {v : Int32} : Al X I (upd4 R 56 0 0 (7 * (5 + dJ D) + i) v) b e k D cd len := by
  have A0 := A
  obtain ⟨⟨kc, kr⟩, _, _, ⟨cc, ⟨c1, c2, c3, c4, c5⟩, o⟩, _⟩ := A
  refine Al_up A0 kc (KR_up kr (by unfold tRg; omega)) rfl rfl rfl rfl (u_c (by omega)) (u_c (by omega)) (by rw [u_c (by omega)]) (u_c (by omega)) cc ⟨?_, ?_, ?_, fun j hj i hi => ?_, ?_⟩ o
  · rw [u_c (by omega)]; exact c1
  · rw [u_c (by omega)]; exact c2
  · rw [u_c (by omega), u_c (by omega), u_c (by omega), u_c (by omega)]; exact c3
  · have := (o.2.1 j hj).2
    rw [u_r (by omega)]; exact c4 j hj i hi
  · rw [u_c (by omega)]; exact c5
/-- a judge half told -/
def JS (X : PX) (I R : Mem) (D : Dft) (i : Nat) (kd st hs : Int32) (rt : Nat → Nat) : Prop :=
  (I 33 (pxd X) 0 (dJ D) = kd ∧ I 34 (pxd X) 0 (dJ D) = st ∧ I 35 (pxd X) 0 (dJ D) = hs ∧ R 52 0 0 (5 + dJ D) = kd ∧ R 53 0 0 (5 + dJ D) = st ∧ R 54 0 0 (5 + dJ D) = hs) ∧ (1 ≤ i → I 36 (pxd X) 0 (dJ D) = nI i) ∧
  (∀ i', i' < i → I 38 (pxd X) (dJ D) i' = nI (rt i') ∧ R 56 0 0 (7 * (5 + dJ D) + i') = nI (rt i') ∧ rt i' < dT D) ∧ ∀ i', i' + 1 < i → 1 ≤ (drm D (rt i') (rt (i' + 1))).toInt
theorem JS_f {i : Nat} {kd st hs : Int32} {rt : Nat → Nat} (h : JS X I R D i kd st hs rt) (F : Fc I I' R R') : JS X I' R' D i kd st hs rt := by
  unfold JS at *
  rw [F.1 33 (by omega), F.1 34 (by omega), F.1 35 (by omega), F.1 36 (by omega), F.1 38 (by omega), F.2 52 (by omega), F.2 53 (by omega), F.2 54 (by omega), F.2 56 (by omega)]
  exact h
def sJud (D : Dft) (n : Nat) (kd st hs : Int32) (rt : Nat → Nat) : Dft :=
  (dT D, dinn D, dnr D, dgg D, dJ D + 1, dC D, (fun j => if j = dJ D then n else dns D j), (fun j => if j = dJ D then rt else drt D j), drm D, dpf D, (fun j => if j = dJ D then kd else dkd D j), (fun j => if j = dJ D then hs else dhs D j), (fun j => if j = dJ D then st else dst D j))
theorem Al_jud (A : Al X I R b e k D cd len) (hJ : dJ D < 5) {i : Nat} {kd st hs : Int32} {rt : Nat → Nat} (h : JS X I R D i kd st hs rt) (hi : 1 ≤ i ∧ i ≤ 7) (hst : 0 ≤ st.toInt ∧ st.toInt ≤ 60) :
    Al X (upd4 I 3 (pxd X) 0 7 (I 3 (pxd X) 0 7 + 1)) (upd4 (upd4 R 55 0 0 (5 + dJ D) (nI i)) 50 0 0 11 (upd4 R 55 0 0 (5 + dJ D) (nI i) 50 0 0 11 + 1)) b e k (sJud D i kd st hs rt) cd len := by
  have A1 := Al_rj A (c := 55) (v := nI i) (by omega)
  obtain ⟨⟨j1, j2, j3, j4, j5, j6⟩, j7, j8, j9⟩ := h
  have A0 := A1
  obtain ⟨⟨kc, kr⟩, _, _, ⟨⟨⟨c1, c2, c3, c4, c5, c6⟩, c7, c8, c9, c10⟩, ⟨⟨r1, r2, r3, r4, r5, r6⟩, r7, r8, r9, r10⟩, ⟨o1, o2, o3, o4, o5, o6, o7⟩⟩, _⟩ := A1
  refine Al_up A0 (KC_up kc (by unfold tCg; omega)) (KR_up kr (by unfold tRg; omega)) (u_c (by omega)) (u_c (by omega)) (u_c (by omega)) (u_c (by omega)) (u_c (by omega)) (u_c (by omega)) (by rw [u5, if_neg (by omega)]) (u_c (by omega))
    ⟨⟨?_, ?_, ?_, ?_, ?_, ?_⟩, ?_, fun j hj => ?_, fun j hj i' hi' => ?_, ?_⟩ ⟨⟨?_, ?_, ?_, ?_, ?_, ?_⟩, ?_, fun j hj => ?_, fun j hj i' hi' => ?_, ?_⟩ ⟨⟨o1.1, o1.2.1, hJ, o1.2.2.2⟩, fun j hj => ?_, fun j hj i' hi' => ?_, fun j hj i' hi' => ?_, o5, fun j hj => ?_, o7⟩
  · rw [u3, if_neg (by omega)]; exact c1
  · rw [u3, if_neg (by omega)]; exact c2
  · rw [u3, if_neg (by omega)]; exact c3
  · rw [u3, if_neg (by omega)]; exact c4
  · rw [u3, if_pos rfl, c5]; exact nI_1 _
  · rw [u3, if_neg (by omega)]; exact c6
  · rw [u_c (by omega)]; exact c7
  · rw [u_c (by omega), u_c (by omega), u_c (by omega), u_c (by omega)]
    show _ = (if j = dJ D then kd else dkd D j) ∧ _ = (if j = dJ D then st else dst D j) ∧ _ = (if j = dJ D then hs else dhs D j) ∧ _ = nI (if j = dJ D then i else dns D j)
    by_cases q : j = dJ D
    · rw [if_pos q, if_pos q, if_pos q, if_pos q, q]; exact ⟨j1, j2, j3, j7 hi.1⟩
    · rw [if_neg q, if_neg q, if_neg q, if_neg q]
      have hj' : j < dJ D + 1 := hj
      exact c8 j (by omega)
  · rw [u_c (by omega)]
    have hi2 : i' < (if j = dJ D then i else dns D j) := hi'
    show _ = nI ((if j = dJ D then rt else drt D j) i')
    by_cases q : j = dJ D
    · rw [if_pos q] at hi2 ⊢; rw [q]; exact (j8 i' hi2).1
    · rw [if_neg q] at hi2 ⊢
      have hj' : j < dJ D + 1 := hj
      exact c9 j (by omega) i' hi2
  · rw [u_c (by omega)]; exact c10
  · rw [u5, if_neg (by omega)]; exact r1
  · rw [u5, if_neg (by omega)]; exact r2
  · rw [u5, if_neg (by omega)]; exact r3
  · rw [u5, if_neg (by omega)]; exact r4
  · rw [u5, if_pos rfl, r5]; exact nI_1 _
  · rw [u5, if_neg (by omega)]; exact r6
  · rw [u_c (by omega)]; exact r7
  · rw [u_c (c := 50) (c' := 52) (by omega), u_c (c := 50) (c' := 53) (by omega), u_c (c := 50) (c' := 54) (by omega), u_c (c := 50) (c' := 55) (by omega)]
    show _ = (if j = dJ D then kd else dkd D j) ∧ _ = (if j = dJ D then st else dst D j) ∧ _ = (if j = dJ D then hs else dhs D j) ∧ _ = nI (if j = dJ D then i else dns D j)
    by_cases q : j = dJ D
    · rw [if_pos q, if_pos q, if_pos q, if_pos q, q, u_at, u_c (by omega), u_c (by omega), u_c (by omega)]; exact ⟨j4, j5, j6, rfl⟩
    · rw [if_neg q, if_neg q, if_neg q, if_neg q]
      have hj' : j < dJ D + 1 := hj
      exact r8 j (by omega)
  · rw [u_c (by omega)]
    have hi2 : i' < (if j = dJ D then i else dns D j) := hi'
    show _ = nI ((if j = dJ D then rt else drt D j) i')
    by_cases q : j = dJ D
    · rw [if_pos q] at hi2 ⊢; rw [q, u_c (by omega)]; exact (j8 i' hi2).2.1
    · rw [if_neg q] at hi2 ⊢
      have hj' : j < dJ D + 1 := hj
      exact r9 j (by omega) i' hi2
  · rw [u_c (by omega)]; exact r10
  · show 1 ≤ (if j = dJ D then i else dns D j) ∧ (if j = dJ D then i else dns D j) ≤ 7
    have hj' : j < dJ D + 1 := hj
    by_cases q : j = dJ D
    · rw [if_pos q]; exact hi
    · rw [if_neg q]; exact o2 j (by omega)
  · have hi2 : i' < (if j = dJ D then i else dns D j) := hi'
    show (if j = dJ D then rt else drt D j) i' < dT D
    have hj' : j < dJ D + 1 := hj
    by_cases q : j = dJ D
    · rw [if_pos q] at hi2 ⊢; exact (j8 i' hi2).2.2
    · rw [if_neg q] at hi2 ⊢; exact o3 j (by omega) i' hi2
  · have hi2 : i' + 1 < (if j = dJ D then i else dns D j) := hi'
    show 1 ≤ (drm D ((if j = dJ D then rt else drt D j) i') ((if j = dJ D then rt else drt D j) (i' + 1))).toInt
    have hj' : j < dJ D + 1 := hj
    by_cases q : j = dJ D
    · rw [if_pos q] at hi2 ⊢; exact j9 i' hi2
    · rw [if_neg q] at hi2 ⊢; exact o4 j (by omega) i' hi2
  · show 0 ≤ (if j = dJ D then st else dst D j).toInt ∧ (if j = dJ D then st else dst D j).toInt ≤ 60
    have hj' : j < dJ D + 1 := hj
    by_cases q : j = dJ D
    · rw [if_pos q]; exact hst
    · rw [if_neg q]; exact o6 j (by omega)
/-! behind a fault -/
theorem D_stop50 (hX : POK X) (hP : P 5 0 0 4 = pxd X) (dd : Dd X I R) {J i : Nat} (hJ : J < 5) (hi : i < 7) (v : Int32) : wp (f_X5_readStop_50 P I (nI J) (nI i) v) (fun r => Dd X r.2 R) := by
  unfold f_X5_readStop_50
  rw [hP, nI_clamp (by omega), nI_clamp (by omega)]
  refine wp_gd (dlt hX.1) (wp_gd (inb_n hJ) (wp_gd (inb_n hi) (wp_bnd (wp_bnd ?_))))
  have d1 : Dd X (upd4 (upd4 I 38 (pxd X) J i v) 36 (pxd X) 0 J (nI i + 1)) R := Dd_cup (Dd_cup dd (by unfold tCg; omega) (by omega)) (by unfold tCg; omega) (by omega)
  rw [d_adv (Dd_c d1), Option.bind_some]
  exact wp_some d1
theorem D_j70 (hX : POK X) (hP : P 5 0 0 4 = pxd X) (dd : Dd X I R) {i fu : Nat} (hi : 1 ≤ i ∧ i ≤ 8) (v w : Int32) : wp (f_X5_readJudge_70 P (fu + 1) I v w (nI i)) (fun I' => Dd X I' R) := by
  have fin : wp (f_X5_readJudge_105 P I) (fun I' => Dd X I' R) := by
    unfold f_X5_readJudge_105
    rw [hP]
    exact wp_gd (dlt hX.1) (wp_bnd (wp_some (Dd_cup dd (by unfold tCg; omega) (by omega))))
  unfold f_X5_readJudge_70
  refine wp_ite (fun _ => fin) (fun _ => wp_neg (nI_ne0 (by omega) (by omega)) (wp_neg ?_ fin))
  rw [Dd_4 dd]; decide
theorem D_j70z (hX : POK X) (hP : P 5 0 0 4 = pxd X) (dd : Dd X I R) {J fu : Nat} (hJ : J < 5) (w : Int32) : wp (f_X5_readJudge_70 P (fu + 2) I (nI J) w 0) (fun I' => Dd X I' R) := by
  unfold f_X5_readJudge_70
  refine wp_neg (by decide) (wp_pos rfl ?_)
  unfold f_X5_readJudge_90 f_X5_readStop
  rw [if_pos (by decide), d_town (by rw [hP]; exact hX.1) (Dd_c dd) (Dd_4 dd), Option.bind_some]
  show wp ((if I 5 0 0 0 = 0 then _ else f_X5_readStop_50 P I (nI J) 0 (-1)).bind _) _
  rw [if_neg (Dd_c dd), n_0]
  refine wp_bind (D_stop50 hX hP dd hJ (i := 0) (by omega) _) (fun r d1 => ?_)
  exact D_j70 hX hP d1 (i := 1) (by omega) _ _
theorem D_r186 (dd : Dd X I R) {J : Nat} (hJ : J < 5) (w : Int32) : wp (f_X8_readJudge_186 R (nI (5 + J)) w) (fun R' => Dd X I R') := by
  unfold f_X8_readJudge_186
  rw [nI_clamp (by omega)]
  exact wp_gd (inb_n (by omega)) (wp_bnd (wp_bnd (wp_some (Dd_rup (Dd_rup dd (by unfold tRg; omega) (by omega)) (by unfold tRg; omega) (by omega)))))
theorem D_r75 (dd : Dd X I R) {J fu : Nat} (hJ : J < 5) (w : Int32) : wp (f_X8_readJudge_75 (fu + 1) R (nI (5 + J)) w) (fun R' => Dd X I R') := by
  unfold f_X8_readJudge_75
  rw [if_neg (Dd_r dd)]
  exact D_r186 dd hJ w
theorem w2_dd {x y : Option Mem} (h : wp x (fun I' => Dd X I' R)) (h2 : ∀ I', Dd X I' R → wp y (fun R' => Dd X I' R')) : W2 x y (fun I' R' => Dd X I' R') := by
  obtain ⟨I', e1, d1⟩ := h
  obtain ⟨R', e2, d2⟩ := h2 I' d1
  exact ⟨I', R', e1, e2, d2⟩
end
