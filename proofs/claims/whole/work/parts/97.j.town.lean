/-! lines: towns, gossip, roads -/
def LnR (X : PX) (b : Nat) (D : Dft) (cd : Nat → Nat) (len : Nat) (I' R' : Mem) : Prop := Dd X I' R' ∨ ∃ b' e' k' D', Al X I' R' b' e' k' D' cd len ∧ b < b' ∧ (dgg D', dC D', dpf D') = (dgg D, dC D, dpf D)
section
variable {X : PX} {I R I' R' : Mem} {b e k : Nat} {D D' : Dft} {cd : Nat → Nat} {len : Nat} {P : PMem}
theorem Al_up (A : Al X I R b e k D cd len) (hC : KC X I') (hR : KR X R') (e5 : I' 5 = I 5) (e47 : I' 47 = I 47) (e4 : I' 4 = I 4) (e41 : I' 41 = I 41) (r8 : R' 8 = R 8) (r60 : R' 60 = R 60) (r13 : R' 50 0 0 13 = R 50 0 0 13) (r58 : R' 58 = R 58)
    (c : CDf X I' D') (r : RDf R' D') (o : DOK D') : Al X I' R' b e k D' cd len := by
  obtain ⟨⟨kc, kr⟩, ⟨p1, p2⟩, ⟨t1, t2, t3⟩, ⟨c1, c2, c3⟩, c4, c5, c6⟩ := A
  refine ⟨⟨hC, hR⟩, ⟨?_, ?_⟩, ⟨?_, ?_, t3⟩, ⟨c, r, o⟩, CWf_e c4 (by rw [e4]) (by rw [e41]), RWf_e c5 r13 r58, c6⟩
  · unfold tpC; rw [e5, e47]; exact p1
  · unfold tpR; rw [r8, r60]; exact p2
  · unfold tkC; rw [e5]; exact t1
  · unfold tkR; rw [r8]; exact t2
theorem u3 {f g z : Nat} {v : Int32} : upd4 I 3 z 0 f v 3 z 0 g = if g = f then v else I 3 z 0 g := by
  rw [u_if]
  by_cases q : g = f
  · rw [if_pos ⟨rfl, q⟩, if_pos q]
  · rw [if_neg (fun y => q y.2), if_neg q]
def sT (D : Dft) (x : Nat) : Dft := (x, dinn D, dnr D, dgg D, dJ D, dC D, dns D, drt D, drm D, dpf D, dkd D, dhs D, dst D)
def sInn (D : Dft) (x : Int32) : Dft := (dT D, x, dnr D, dgg D, dJ D, dC D, dns D, drt D, drm D, dpf D, dkd D, dhs D, dst D)
def sGg (D : Dft) (x : Int32) : Dft := (dT D, dinn D, dnr D, x, dJ D, dC D, dns D, drt D, drm D, dpf D, dkd D, dhs D, dst D)
theorem Al_town (A : Al X I R b e k D cd len) (hT : dT D < 9) : Al X (upd4 I 3 (pxd X) 0 0 (I 3 (pxd X) 0 0 + 1)) (upd4 R 50 0 0 7 (R 50 0 0 7 + 1)) b e k (sT D (dT D + 1)) cd len := by
  have A0 := A
  obtain ⟨⟨kc, kr⟩, _, _, ⟨⟨⟨c1, c2, c3, c4, c5, c6⟩, c7⟩, ⟨⟨r1, r2, r3, r4, r5, r6⟩, r7⟩, ⟨o1, o2, o3, o4⟩⟩, _⟩ := A
  refine Al_up A0 (KC_up kc (by unfold tCg; omega)) (KR_up kr (by unfold tRg; omega)) (u_c (by omega)) (u_c (by omega)) (u_c (by omega)) (u_c (by omega)) (u_c (by omega)) (u_c (by omega)) (by rw [u5, if_neg (by omega)]) (u_c (by omega)) ⟨⟨?_, ?_, ?_, ?_, ?_, ?_⟩, ?_⟩ ⟨⟨?_, ?_, ?_, ?_, ?_, ?_⟩, ?_⟩ ⟨⟨hT, o1.2⟩, o2, fun j hj i hi => Nat.lt_succ_of_lt (o3 j hj i hi), o4⟩
  · rw [u3, if_pos rfl, c1]; exact nI_1 _
  · rw [u3, if_neg (by omega)]; exact c2
  · rw [u3, if_neg (by omega)]; exact c3
  · rw [u3, if_neg (by omega)]; exact c4
  · rw [u3, if_neg (by omega)]; exact c5
  · rw [u3, if_neg (by omega)]; exact c6
  · rw [u_c (by omega), u_c (by omega), u_c (by omega), u_c (by omega), u_c (by omega), u_c (by omega), u_c (by omega)]; exact c7
  · rw [u5, if_pos rfl, r1]; exact nI_1 _
  · rw [u5, if_neg (by omega)]; exact r2
  · rw [u5, if_neg (by omega)]; exact r3
  · rw [u5, if_neg (by omega)]; exact r4
  · rw [u5, if_neg (by omega)]; exact r5
  · rw [u5, if_neg (by omega)]; exact r6
  · rw [u_c (by omega), u_c (by omega), u_c (by omega), u_c (by omega), u_c (by omega), u_c (by omega), u_c (by omega)]; exact r7
theorem Al_inn (A : Al X I R b e k D cd len) (x : Int32) : Al X (upd4 I 3 (pxd X) 0 1 x) (upd4 R 50 0 0 8 x) b e k (sInn D x) cd len := by
  have A0 := A
  obtain ⟨⟨kc, kr⟩, _, _, ⟨⟨⟨c1, c2, c3, c4, c5, c6⟩, c7⟩, ⟨⟨r1, r2, r3, r4, r5, r6⟩, r7⟩, o⟩, _⟩ := A
  refine Al_up A0 (KC_up kc (by unfold tCg; omega)) (KR_up kr (by unfold tRg; omega)) (u_c (by omega)) (u_c (by omega)) (u_c (by omega)) (u_c (by omega)) (u_c (by omega)) (u_c (by omega)) (by rw [u5, if_neg (by omega)]) (u_c (by omega)) ⟨⟨?_, ?_, ?_, ?_, ?_, ?_⟩, ?_⟩ ⟨⟨?_, ?_, ?_, ?_, ?_, ?_⟩, ?_⟩ o
  · rw [u3, if_neg (by omega)]; exact c1
  · rw [u3, if_pos rfl]; rfl
  · rw [u3, if_neg (by omega)]; exact c3
  · rw [u3, if_neg (by omega)]; exact c4
  · rw [u3, if_neg (by omega)]; exact c5
  · rw [u3, if_neg (by omega)]; exact c6
  · rw [u_c (by omega), u_c (by omega), u_c (by omega), u_c (by omega), u_c (by omega), u_c (by omega), u_c (by omega)]; exact c7
  · rw [u5, if_neg (by omega)]; exact r1
  · rw [u5, if_pos rfl]; rfl
  · rw [u5, if_neg (by omega)]; exact r3
  · rw [u5, if_neg (by omega)]; exact r4
  · rw [u5, if_neg (by omega)]; exact r5
  · rw [u5, if_neg (by omega)]; exact r6
  · rw [u_c (by omega), u_c (by omega), u_c (by omega), u_c (by omega), u_c (by omega), u_c (by omega), u_c (by omega)]; exact r7
theorem Al_gg (A : Al X I R b e k D cd len) {w : Nat} (hw : 1 ≤ w ∧ w ≤ 40) : Al X (upd4 I 3 (pxd X) 0 3 (nI w)) (upd4 R 50 0 0 10 (nI w)) b e k (sGg D (nI w)) cd len := by
  have A0 := A
  have w0 : ¬ nI w = 0 := nI_ne0 (by omega) (by omega)
  have wi : (nI w).toInt = w := nI_toInt (by omega)
  obtain ⟨⟨kc, kr⟩, _, _, ⟨⟨⟨c1, c2, c3, c4, c5, c6⟩, c7⟩, ⟨⟨r1, r2, r3, r4, r5, r6⟩, r7⟩, ⟨o1, o2, o3, o4, o5, o6, o7⟩⟩, _⟩ := A
  refine Al_up A0 (KC_up kc (by unfold tCg; omega)) (KR_up kr (by unfold tRg; omega)) (u_c (by omega)) (u_c (by omega)) (u_c (by omega)) (u_c (by omega)) (u_c (by omega)) (u_c (by omega)) (by rw [u5, if_neg (by omega)]) (u_c (by omega)) ⟨⟨?_, ?_, ?_, ?_, ?_, ?_⟩, ?_⟩ ⟨⟨?_, ?_, ?_, ?_, ?_, ?_⟩, ?_⟩ ⟨o1, o2, o3, o4, o5, o6, Or.inr ?_⟩
  · rw [u3, if_neg (by omega)]; exact c1
  · rw [u3, if_neg (by omega)]; exact c2
  · rw [u3, if_neg (by omega)]; exact c3
  · rw [u3, if_pos rfl]; rfl
  · rw [u3, if_neg (by omega)]; exact c5
  · rw [u3, if_neg (by omega)]; exact c6
  · rw [u_c (by omega), u_c (by omega), u_c (by omega), u_c (by omega), u_c (by omega), u_c (by omega), u_c (by omega)]; exact c7
  · rw [u5, if_neg (by omega)]; exact r1
  · rw [u5, if_neg (by omega)]; exact r2
  · rw [u5, if_neg (by omega)]; exact r3
  · rw [u5, if_pos rfl, show dgg (sGg D (nI w)) = nI w from rfl, if_neg w0]
  · rw [u5, if_neg (by omega)]; exact r5
  · rw [u5, if_neg (by omega)]; exact r6
  · rw [u_c (by omega), u_c (by omega), u_c (by omega), u_c (by omega), u_c (by omega), u_c (by omega), u_c (by omega)]; exact r7
  · show 1 ≤ (nI w).toInt ∧ (nI w).toInt ≤ 40
    rw [wi]; omega
/-- one more of a kind, or too many -/
theorem r_another (A : Al X I R b e k D cd len) {i m N : Nat} (hi : i < 7) (h : R 50 0 0 (7 + i) = nI m) (hm : m < 100) (hN : N < 100) {vi vN : Int32} (hvi : vi = nI i) (hvN : vN = nI N) : f_X8_another R vi vN = if m = N then some (0, rfR R 2) else (f_X8_stepOn R).bind fun y => some (1, y) := by
  subst hvi hvN
  unfold f_X8_another f_X8_another_18
  rw [show (7 : Int32) = nI 7 from rfl, nI_add, gd_t (inb_n (by omega)), nI_clamp (by omega), h]
  by_cases q : m = N
  · have r := L_ref A (v := 2) (by decide)
    rw [if_pos (by rw [q]), if_pos q, r.2.1, Option.bind_some, if_neg (Dd_r r.2.2)]
  · rw [if_neg (by rw [nI_eq (by omega) (by omega)]; exact q), if_neg q, if_pos (Al_r A)]
theorem L_readTown (hX : POK X) (hP : P 5 0 0 4 = pxd X) (A : Al X I R b e k D cd len) (hk : k ≠ 0) : W2 (f_X5_readTown P I) (f_X8_readTown R) (LnR X b D cd len) := by
  have hb := A_b A
  have hb2 := hb.2.2.2.2.2 hk
  have o1 := A.2.2.2.1.2.2.1
  unfold f_X5_readTown f_X8_readTown
  rw [hP, A.2.2.2.1.1.1.1, r_another A (i := 0) (by omega) A.2.2.2.1.2.1.1.1 (m := dT D) (N := 9) (by omega) (by omega) (vi := 0) (vN := 9) rfl rfl]
  refine w2_gdl (dlt hX.1) ?_
  by_cases q : dT D = 9
  · have r := L_ref A (v := 2) (by decide)
    rw [if_pos q, Option.bind_some, if_neg (show ¬ nI (dT D) < 9 from nI_nlt (b := 9) (by omega) (by omega)), r.1, Option.bind_some]
    exact w2_pr rfl (w2_some (Or.inl r.2.2))
  · rw [if_neg q, if_pos (show nI (dT D) < 9 from nI_lt (b := 9) (by omega) (by omega))]
    have as : ∀ {o : Option Mem} {f : Mem → Option (Int32 × Mem)} {g : Int32 × Mem → Option Mem}, (o.bind f).bind g = o.bind (fun y => (f y).bind g) := by
      intro o f g; cases o <;> rfl
    rw [as]
    refine w2_bb (L_adv hX A) ?_
    rintro I1 R1 ⟨b1, e1, k1, A1, hb1⟩
    rw [Option.bind_some]
    have w := L_word hX A1 (z := 12) (by omega)
    refine w2_nr (show ¬ (1 : Int32) = 0 by decide) (w2_lE _ w.1 (w2_rE _ w.2 ?_))
    unfold f_X5_readTown_56 f_X8_readTown_44
    rw [hP]
    cases hw : (decide (k1 = 1) && wI (pxt X) b1 e1 12)
    · refine w2_pl rfl (w2_pr rfl (w2_gdl (dlt hX.1) (w2_some (Or.inr ⟨b1, e1, k1, _, Al_town A1 (by omega), by omega, rfl⟩))))
    · refine w2_nl bI_t (w2_nr bI_t ?_)
      unfold bnd
      have A2 := Al_inn A1 (dinn D ||| jshl 1 (nI (dT D)))
      dsimp only
      rw [A1.2.2.2.1.1.1.1, A1.2.2.2.1.1.1.2.1, A1.2.2.2.1.2.1.1.1, A1.2.2.2.1.2.1.1.2.1]
      refine w2_bb (L_adv hX A2) ?_
      rintro I3 R3 ⟨b3, e3, k3, A3, hb3⟩
      have hb4 := A_b A1
      have hT3 : dT (sInn D (dinn D ||| jshl 1 (nI (dT D)))) < 9 := by show dT D < 9; omega
      exact w2_gdl (dlt hX.1) (w2_some (Or.inr ⟨b3, e3, k3, _, Al_town A3 hT3, by omega, rfl⟩))
theorem L_goss (hX : POK X) (hP : P 5 0 0 4 = pxd X) (A : Al X I R b e k D cd len) : W2 ((f_X5_takeNumber I 1 40).bind fun y2 => bnd (upd4 y2.2 3 (P 5 0 0 4) 0 3 y2.1) fun I1' => some I1') ((f_X8_readNumber R 1 40).bind fun y2 => bnd (upd4 y2.2 50 0 0 10 y2.1) fun I1' => some I1')
    (fun I' R' => Dd X I' R' ∨ ∃ b' e' k' D', Al X I' R' b' e' k' D' cd len ∧ b < b' ∧ dgg D' ≠ 0 ∧ (dC D', dpf D') = (dC D, dpf D)) := by
  have hb := A_b A
  rw [hP]
  refine w2_bb (L_take hX A (lo := 1) (hi := 40) (by omega) (by omega) rfl rfl) ?_
  rintro ⟨a1, a2⟩ ⟨c1, c2⟩ (⟨w, b', e', k', q1, q2, q3, q4, q5, A', hb'⟩ | ⟨dd, q⟩)
  · have q4' : a1 = nI w := q4
    have q5' : c1 = nI w := q5
    subst q4' q5'
    have hb2 := hb.2.2.2.2.2 (by omega)
    exact w2_some (Or.inr ⟨b', e', k', _, Al_gg A' ⟨q1, q2⟩, by omega, nI_ne0 (by omega) (by omega), rfl⟩)
  · exact w2_some (Or.inl (Dd_rup (Dd_cup dd (by unfold tCg; omega) (by omega)) (by unfold tRg; omega) (by omega)))
/-! roads -/
def rm2 (rm : Nat → Nat → Int32) (s t : Nat) (w : Int32) : Nat → Nat → Int32 := fun a b => if a = s ∧ b = t ∨ a = t ∧ b = s then w else rm a b
def sRoad (D : Dft) (s t : Nat) (w : Int32) : Dft := (dT D, dinn D, dnr D + 1, dgg D, dJ D, dC D, dns D, drt D, rm2 (drm D) s t w, dpf D, dkd D, dhs D, dst D)
theorem Al_road (A : Al X I R b e k D cd len) (hr : dnr D < 14) {s t w : Nat} (hs : s < dT D) (ht : t < dT D) (hw : 1 ≤ w ∧ w ≤ 9) :
    Al X (upd4 (upd4 (upd4 I 28 (pxd X) s t (nI w)) 28 (pxd X) t s (nI w)) 3 (pxd X) 0 2 (upd4 (upd4 I 28 (pxd X) s t (nI w)) 28 (pxd X) t s (nI w) 3 (pxd X) 0 2 + 1))
      (upd4 (upd4 (upd4 R 51 0 0 (81 + (9 * s + t)) (nI w)) 51 0 0 (81 + (9 * t + s)) (nI w)) 50 0 0 9 (upd4 (upd4 R 51 0 0 (81 + (9 * s + t)) (nI w)) 51 0 0 (81 + (9 * t + s)) (nI w) 50 0 0 9 + 1)) b e k (sRoad D s t (nI w)) cd len := by
  have A0 := A
  have wi : (nI w).toInt = w := nI_toInt (by omega)
  obtain ⟨⟨kc, kr⟩, _, _, ⟨⟨⟨c1, c2, c3, c4, c5, c6⟩, c7, c8⟩, ⟨⟨r1, r2, r3, r4, r5, r6⟩, r7, r8⟩, ⟨o1, o2, o3, o4, o5, o6⟩⟩, _⟩ := A
  have rmb : ∀ a b, a < 9 → b < 9 → rm2 (drm D) s t (nI w) a b = rm2 (drm D) s t (nI w) b a ∧ 0 ≤ (rm2 (drm D) s t (nI w) a b).toInt ∧ (rm2 (drm D) s t (nI w) a b).toInt ≤ 9 := by
    intro a b ha hb
    unfold rm2
    have z := o5 a b ha hb
    by_cases y : a = s ∧ b = t ∨ a = t ∧ b = s
    · rw [if_pos y, if_pos (by omega), wi]; exact ⟨rfl, by omega, by omega⟩
    · rw [if_neg y, if_neg (by omega)]; exact z
  refine Al_up A0 (KC_up (KC_up (KC_up kc (by unfold tCg; omega)) (by unfold tCg; omega)) (by unfold tCg; omega)) (KR_up (KR_up (KR_up kr (by unfold tRg; omega)) (by unfold tRg; omega)) (by unfold tRg; omega)) (by rw [u_c (by omega), u_c (by omega), u_c (by omega)]) (by rw [u_c (by omega), u_c (by omega), u_c (by omega)]) (by rw [u_c (by omega), u_c (by omega), u_c (by omega)]) (by rw [u_c (by omega), u_c (by omega), u_c (by omega)]) (by rw [u_c (by omega), u_c (by omega), u_c (by omega)]) (by rw [u_c (by omega), u_c (by omega), u_c (by omega)]) (by rw [u5, if_neg (by omega), u_c (by omega), u_c (by omega)]) (by rw [u_c (by omega), u_c (by omega), u_c (by omega)])
    ⟨⟨?_, ?_, ?_, ?_, ?_, ?_⟩, fun a b ha hb => ?_, ?_⟩ ⟨⟨?_, ?_, ?_, ?_, ?_, ?_⟩, fun a b ha hb => ?_, ?_⟩ ⟨⟨o1.1, hr, o1.2.2⟩, o2, o3, fun j hj i hi => ?_, rmb, o6⟩
  · rw [u3, if_neg (by omega), u_c (by omega), u_c (by omega)]; exact c1
  · rw [u3, if_neg (by omega), u_c (by omega), u_c (by omega)]; exact c2
  · rw [u3, if_pos rfl, u_c (by omega), u_c (by omega), c3]; exact nI_1 _
  · rw [u3, if_neg (by omega), u_c (by omega), u_c (by omega)]; exact c4
  · rw [u3, if_neg (by omega), u_c (by omega), u_c (by omega)]; exact c5
  · rw [u3, if_neg (by omega), u_c (by omega), u_c (by omega)]; exact c6
  · show upd4 _ 3 (pxd X) 0 2 _ 28 (pxd X) a b = rm2 (drm D) s t (nI w) a b
    rw [u_c (by omega), u_if, u_if]
    unfold rm2
    by_cases y1 : a = t ∧ b = s
    · rw [if_pos y1, if_pos (Or.inr y1)]
    · rw [if_neg y1]
      by_cases y2 : a = s ∧ b = t
      · rw [if_pos y2, if_pos (Or.inl y2)]
      · rw [if_neg y2, if_neg (by omega)]; exact c7 a b ha hb
  · rw [u_c (by omega), u_c (by omega), u_c (by omega), u_c (by omega), u_c (by omega), u_c (by omega), u_c (by omega), u_c (by omega), u_c (by omega), u_c (by omega), u_c (by omega), u_c (by omega), u_c (by omega), u_c (by omega), u_c (by omega), u_c (by omega), u_c (by omega), u_c (by omega)]; exact c8
  · rw [u5, if_neg (by omega), u_c (by omega), u_c (by omega)]; exact r1
  · rw [u5, if_neg (by omega), u_c (by omega), u_c (by omega)]; exact r2
  · rw [u5, if_pos rfl, u_c (by omega), u_c (by omega), r3]; exact nI_1 _
  · rw [u5, if_neg (by omega), u_c (by omega), u_c (by omega)]; exact r4
  · rw [u5, if_neg (by omega), u_c (by omega), u_c (by omega)]; exact r5
  · rw [u5, if_neg (by omega), u_c (by omega), u_c (by omega)]; exact r6
  · show upd4 _ 50 0 0 9 _ 51 0 0 (81 + (9 * a + b)) = rm2 (drm D) s t (nI w) a b
    rw [u_c (by omega), u5, u5]
    unfold rm2
    by_cases y1 : a = t ∧ b = s
    · rw [if_pos (by omega), if_pos (Or.inr y1)]
    · rw [if_neg (by omega)]
      by_cases y2 : a = s ∧ b = t
      · rw [if_pos (by omega), if_pos (Or.inl y2)]
      · rw [if_neg (by omega), if_neg (by omega)]; exact r7 a b ha hb
  · rw [u_c (by omega), u_c (by omega), u_c (by omega), u_c (by omega), u_c (by omega), u_c (by omega), u_c (by omega), u_c (by omega), u_c (by omega), u_c (by omega), u_c (by omega), u_c (by omega), u_c (by omega), u_c (by omega), u_c (by omega), u_c (by omega), u_c (by omega), u_c (by omega)]; exact r8
  · show 1 ≤ (rm2 (drm D) s t (nI w) (drt D j i) (drt D j (i + 1))).toInt
    unfold rm2
    split
    · rw [wi]; omega
    · exact o4 j hj i hi
theorem d_road65 (h : I 5 0 0 0 ≠ 0) (h4 : I 5 0 0 5 = 4) (v w : Int32) : f_X5_readRoad_65 P I v w = some I := by
  unfold f_X5_readRoad_65
  rw [d_adv h, Option.bind_some, d_take h h4, Option.bind_some]
  exact if_neg h
theorem e_road67 (h : R 8 0 0 21 ≠ 0) (u v w : Int32) : f_X8_readRoad_67 R u v w = some R := by
  unfold f_X8_readRoad_67 f_X8_readRoad_78
  rw [if_neg h, d_rnum h, Option.bind_some]
  exact if_neg h
theorem L_readRoad (hX : POK X) (hP : P 5 0 0 4 = pxd X) (A : Al X I R b e k D cd len) (hk : k ≠ 0) : W2 (f_X5_readRoad P I) (f_X8_readRoad R) (LnR X b D cd len) := by
  have hb := A_b A
  have hb2 := hb.2.2.2.2.2 hk
  have o1 := A.2.2.2.1.2.2.1
  have o5 := A.2.2.2.1.2.2.2.2.2.2.1
  have hPt : P 5 0 0 4 < 2 := by rw [hP]; exact hX.1
  unfold f_X5_readRoad f_X8_readRoad
  rw [hP, A.2.2.2.1.1.1.2.2.1, r_another A (i := 2) (by omega) A.2.2.2.1.2.1.1.2.2.1 (m := dnr D) (N := 14) (by omega) (by omega) (vi := 2) (vN := 14) rfl rfl]
  refine w2_gdl (dlt hX.1) ?_
  by_cases q : dnr D = 14
  · have r := L_ref A (v := 2) (by decide)
    rw [if_pos q, Option.bind_some, if_neg (show ¬ nI (dnr D) < 14 from nI_nlt (b := 14) (by omega) (by omega)), r.1, Option.bind_some]
    exact w2_pr rfl (w2_some (Or.inl r.2.2))
  · rw [if_neg q, if_pos (show nI (dnr D) < 14 from nI_lt (b := 14) (by omega) (by omega))]
    have as : ∀ {o : Option Mem} {f : Mem → Option (Int32 × Mem)} {g : Int32 × Mem → Option Mem}, (o.bind f).bind g = o.bind (fun y => (f y).bind g) := by
      intro o f g; cases o <;> rfl
    rw [as]
    refine w2_bb (L_adv hX A) ?_
    rintro I1 R1 ⟨b1, e1, k1, A1, hb1⟩
    rw [Option.bind_some]
    have hb4 := A_b A1
    refine w2_nr (show ¬ (1 : Int32) = 0 by decide) (w2_bb (L_town hX hP A1) ?_)
    rintro ⟨a1, a2⟩ ⟨c1, c2⟩ (⟨s, hs, hk1, ea, ec⟩ | ⟨dd, q1, q2⟩)
    · obtain ⟨rfl, rfl⟩ := Prod.mk.inj ea
      obtain ⟨rfl, rfl⟩ := Prod.mk.inj ec
      have hb5 := hb4.2.2.2.2.2 (by omega)
      refine w2_pr (Al_r A1) (w2_bb (L_adv hX A1) ?_)
      rintro I2 R2 ⟨b2, e2, k2, A2, hb6⟩
      have hb7 := A_b A2
      unfold f_X8_readRoad_27
      refine w2_bb (L_town hX hP A2) ?_
      rintro ⟨a3, a4⟩ ⟨c3, c4⟩ (⟨t, ht, hk2, ea, ec⟩ | ⟨dd, q1, q2⟩)
      · obtain ⟨rfl, rfl⟩ := Prod.mk.inj ea
        obtain ⟨rfl, rfl⟩ := Prod.mk.inj ec
        refine w2_pl (Al_c A2) (w2_pr (Al_r A2) ?_)
        have bad : W2 (f_X5_readRoad_60 P a4 (nI s) (nI t)) (f_X8_readRoad_62 c4 (nI s) (nI t) 81) (LnR X b D cd len) := by
          have r := L_ref A2 (v := 4) (by decide)
          unfold f_X5_readRoad_60 f_X8_readRoad_62
          rw [r.1, Option.bind_some, d_road65 (Dd_c r.2.2) (Dd_4 r.2.2), r.2.1, Option.bind_some, e_road67 (Dd_r r.2.2)]
          exact w2_some (Or.inl r.2.2)
        by_cases st : s = t
        · exact w2_pl (by rw [st]) (w2_pr (by rw [st]) bad)
        · have st' : ¬ nI s = nI t := by rw [nI_eq (by omega) (by omega)]; exact st
          refine w2_nl st' (w2_nr st' ?_)
          unfold f_X3_isJoined f_X8_couple
          dsimp only
          rw [Option.bind_some, n_9, idx_n, show (81 : Int32) = nI 81 from rfl, nI_add, nI_clamp (by omega), nI_clamp (by omega), nI_clamp (by omega), gd_t (inb_n (by omega)), gd_t (inb_n (by omega))]
          refine w2_gdr (inb_n (by omega)) ?_
          have x1 := A2.2.2.2.1.1.2.1 s t (by omega) (by omega)
          have x2 := A2.2.2.2.1.2.1.2.1 s t (by omega) (by omega)
          by_cases z : drm D s t ≤ 0
          · rw [if_pos (by rw [x1]; exact z), Option.bind_some, if_pos rfl, if_pos (by rw [x2]; exact z)]
            unfold f_X5_readRoad_65 f_X8_readRoad_67 f_X8_readRoad_78
            rw [hP]
            refine w2_pr (Al_r A2) (w2_bb (L_adv hX A2) ?_)
            rintro I3 R3 ⟨b3, e3, k3, A3, hb8⟩
            have hb9 := A_b A3
            refine w2_bb (L_take hX A3 (lo := 1) (hi := 9) (by omega) (by omega) rfl rfl) ?_
            rintro ⟨x1, x2⟩ ⟨y1, y2⟩ (⟨w, b', e', k', w1, w2, w3, w4, w5, A', hb'⟩ | ⟨dd, _⟩)
            · have w4' : x1 = nI w := w4
              have w5' : y1 = nI w := w5
              subst w4' w5'
              refine w2_pl (Al_c A') (w2_pr (Al_r A') (w2_gdl (dlt hX.1) (w2_gdl (inb_n (by omega)) (w2_gdl (inb_n (by omega)) ?_))))
              unfold f_X8_couple
              dsimp only
              rw [Option.bind_some, n_9, idx_n, nI_add, nI_clamp (by omega), nI_clamp (by omega), nI_clamp (by omega)]
              refine w2_gdr (inb_n (by omega)) ?_
              simp only [bnd]
              rw [Option.bind_some, idx_n, nI_add, nI_clamp (by omega)]
              refine w2_gdr (inb_n (by omega)) ?_
              exact w2_some (Or.inr ⟨b', e', k', _, Al_road A' (by omega) hs ht ⟨w1, w2⟩, by omega, rfl⟩)
            · exact w2_nl (Dd_c dd) (w2_nr (Dd_r dd) (w2_some (Or.inl dd)))
          · rw [if_neg (by rw [x1]; exact z), Option.bind_some, if_neg (by decide), if_neg (by rw [x2]; exact z)]
            exact bad
      · refine w2_nl (Dd_c dd) (w2_nr (Dd_r dd) ?_)
        rw [d_road65 (Dd_c dd) (Dd_4 dd), e_road67 (Dd_r dd)]
        exact w2_some (Or.inl dd)
    · rw [d_adv (Dd_c dd), Option.bind_some, d_town hPt (Dd_c dd) (Dd_4 dd), Option.bind_some]
      refine w2_nl (Dd_c dd) (w2_nr (Dd_r dd) ?_)
      unfold f_X8_readRoad_27
      rw [d_tnow (Dd_r dd), Option.bind_some, d_road65 (Dd_c dd) (Dd_4 dd)]
      refine w2_nr (Dd_r dd) ?_
      rw [e_road67 (Dd_r dd)]
      exact w2_some (Or.inl dd)
end
