/-! lines: cases -/
def NP (D : Dft) : Prop := ∀ c t, dC D ≤ c → c < 6 → t < 9 → dpf D c t = -1
def CR (X : PX) (b : Nat) (D : Dft) (cd : Nat → Nat) (len : Nat) (I' R' : Mem) : Prop := Dd X I' R' ∨ ∃ b' e' k' D', Al X I' R' b' e' k' D' cd len ∧ b < b' ∧ dgg D' = dgg D ∧ NP D'
def sPf (D : Dft) (t : Nat) (v : Int32) : Dft := (dT D, dinn D, dnr D, dgg D, dJ D, dC D, dns D, drt D, drm D, (fun c t' => if c = dC D ∧ t' = t then v else dpf D c t'), dkd D, dhs D, dst D)
def sCas (D : Dft) : Dft := (dT D, dinn D, dnr D, dgg D, dJ D, dC D + 1, dns D, drt D, drm D, dpf D, dkd D, dhs D, dst D)
/-- the row of the case that is being told, in the reference -/
def RP (R : Mem) (D : Dft) : Prop := ∀ t, t < 9 → R 57 0 0 (9 * (6 + dC D) + t) = dpf D (dC D) t
def NP1 (D : Dft) : Prop := ∀ c t, dC D + 1 ≤ c → c < 6 → t < 9 → dpf D c t = -1
section
variable {X : PX} {I R I' R' : Mem} {b e k : Nat} {D : Dft} {cd : Nat → Nat} {len : Nat} {P : PMem}
theorem Al_pf (A : Al X I R b e k D cd len) (hC : dC D < 6) {t : Nat} (ht : t < 9) {v : Int32} : Al X (upd4 I 40 (pxd X) (dC D) t v) (upd4 R 57 0 0 (9 * (6 + dC D) + t) v) b e k (sPf D t v) cd len := by
  have A0 := A
  obtain ⟨⟨kc, kr⟩, _, _, ⟨⟨c1, c2, c3, c4, c5⟩, ⟨r1, r2, r3, r4, r5⟩, o⟩, _⟩ := A
  refine Al_up A0 (KC_up kc (by unfold tCg; omega)) (KR_up kr (by unfold tRg; omega)) (u_c (by omega)) (u_c (by omega)) (u_c (by omega)) (u_c (by omega)) (u_c (by omega)) (u_c (by omega)) (by rw [u_c (by omega)]) (u_c (by omega)) ⟨?_, ?_, ?_, ?_, fun c t' hc ht' => ?_⟩ ⟨?_, ?_, ?_, ?_, fun c t' hc ht' => ?_⟩ o
  · rw [u_c (by omega)]; exact c1
  · rw [u_c (by omega)]; exact c2
  · rw [u_c (by omega), u_c (by omega), u_c (by omega), u_c (by omega)]; exact c3
  · rw [u_c (by omega)]; exact c4
  · show _ = if c = dC D ∧ t' = t then v else dpf D c t'
    rw [u_if]
    by_cases q : c = dC D ∧ t' = t
    · rw [if_pos q, if_pos q]
    · rw [if_neg q, if_neg q]; exact c5 c t' hc ht'
  · rw [u_c (by omega)]; exact r1
  · rw [u_c (by omega)]; exact r2
  · rw [u_c (by omega), u_c (by omega), u_c (by omega), u_c (by omega)]; exact r3
  · rw [u_c (by omega)]; exact r4
  · show _ = if c = dC D ∧ t' = t then v else dpf D c t'
    have hc' : c < dC D := hc
    rw [if_neg (by omega), u_r (by omega)]; exact r5 c t' hc ht'
theorem Al_cas (A : Al X I R b e k D cd len) (hC : dC D < 6) (hr : RP R D) : Al X (upd4 I 3 (pxd X) 0 13 (I 3 (pxd X) 0 13 + 1)) (upd4 R 50 0 0 12 (R 50 0 0 12 + 1)) b e k (sCas D) cd len := by
  have A0 := A
  obtain ⟨⟨kc, kr⟩, _, _, ⟨⟨⟨c1, c2, c3, c4, c5, c6⟩, c7⟩, ⟨⟨r1, r2, r3, r4, r5, r6⟩, r7, r8, r9, r10⟩, ⟨o1, o2⟩⟩, _⟩ := A
  refine Al_up A0 (KC_up kc (by unfold tCg; omega)) (KR_up kr (by unfold tRg; omega)) (u_c (by omega)) (u_c (by omega)) (u_c (by omega)) (u_c (by omega)) (u_c (by omega)) (u_c (by omega)) (by rw [u5, if_neg (by omega)]) (u_c (by omega)) ⟨⟨?_, ?_, ?_, ?_, ?_, ?_⟩, ?_⟩ ⟨⟨?_, ?_, ?_, ?_, ?_, ?_⟩, ?_, ?_, ?_, fun c t hc ht => ?_⟩ ⟨⟨o1.1, o1.2.1, o1.2.2.1, hC⟩, o2⟩
  · rw [u3, if_neg (by omega)]; exact c1
  · rw [u3, if_neg (by omega)]; exact c2
  · rw [u3, if_neg (by omega)]; exact c3
  · rw [u3, if_neg (by omega)]; exact c4
  · rw [u3, if_neg (by omega)]; exact c5
  · rw [u3, if_pos rfl, c6]; exact nI_1 _
  · rw [u_c (by omega), u_c (by omega), u_c (by omega), u_c (by omega), u_c (by omega), u_c (by omega), u_c (by omega)]; exact c7
  · rw [u5, if_neg (by omega)]; exact r1
  · rw [u5, if_neg (by omega)]; exact r2
  · rw [u5, if_neg (by omega)]; exact r3
  · rw [u5, if_neg (by omega)]; exact r4
  · rw [u5, if_neg (by omega)]; exact r5
  · rw [u5, if_pos rfl, r6]; exact nI_1 _
  · rw [u_c (by omega)]; exact r7
  · rw [u_c (by omega), u_c (by omega), u_c (by omega), u_c (by omega)]; exact r8
  · rw [u_c (by omega)]; exact r9
  · rw [u_c (by omega)]
    have hc' : c < dC D + 1 := hc
    by_cases q : c = dC D
    · subst q; exact hr t ht
    · exact r10 c t (by omega) ht
/-! behind a fault -/
theorem D_p44 (dd : Dd X I R) (v w : Int32) : f_X5_readProof_44 P I v w = some I := by
  unfold f_X5_readProof_44
  rw [d_adv (Dd_c dd), Option.bind_some, d_take (Dd_c dd) (Dd_4 dd), Option.bind_some]
  exact if_neg (Dd_c dd)
theorem D_proof (hX : POK X) (hP : P 5 0 0 4 = pxd X) (dd : Dd X I R) (v w : Int32) : f_X5_readProof P I v w = some I := by
  unfold f_X5_readProof
  rw [d_town (by rw [hP]; exact hX.1) (Dd_c dd) (Dd_4 dd), Option.bind_some, d_ref (Dd_c dd)]
  show (if w < 6 then (if I 5 0 0 0 = 0 then _ else f_X5_readProof_44 P I v (-1)) else _) = _
  rw [if_neg (Dd_c dd), D_p44 dd]
  split
  · rfl
  · rw [d_ref (Dd_c dd)]; rfl
theorem D_c26 (hX : POK X) (hP : P 5 0 0 4 = pxd X) (dd : Dd X I R) {i fu : Nat} (hi : 1 ≤ i ∧ i ≤ 7) (v : Int32) : wp (f_X5_readCase_26 P (fu + 1) I v (nI i)) (fun I' => Dd X I' R) := by
  have fin : wp (f_X5_readCase_56 P I) (fun I' => Dd X I' R) := by
    unfold f_X5_readCase_56
    rw [hP]
    exact wp_gd (dlt hX.1) (wp_bnd (wp_some (Dd_cup dd (by unfold tCg; omega) (by omega))))
  unfold f_X5_readCase_26
  refine wp_ite (fun _ => fin) (fun _ => wp_neg (nI_ne0 (by omega) (by omega)) (wp_neg ?_ fin))
  rw [Dd_4 dd]; decide
theorem D_r70 (dd : Dd X I R) {fu : Nat} (v w : Int32) : wp (f_X8_readCase_70 (fu + 1) R v w) (fun R' => Dd X I R') := by
  unfold f_X8_readCase_70 f_X8_readCase_171
  rw [if_neg (Dd_r dd)]
  exact wp_bnd (wp_some (Dd_rup dd (by unfold tRg; omega) (by omega)))
theorem D_r125 (dd : Dd X I R) {k70 : Mem → Int32 → Int32 → Option Mem} (u v w : Int32) : f_X8_readCase_125 k70 R u v w = k70 R u v := by
  unfold f_X8_readCase_125 f_X8_readCase_136
  rw [if_neg (Dd_r dd), d_rnum (Dd_r dd), Option.bind_some]
  exact if_neg (Dd_r dd)
theorem DD_cas (hX : POK X) (hP : P 5 0 0 4 = pxd X) {b0 : Nat} (dd : Dd X I R) {i g g' : Nat} (hi : i < 7) (v w w' : Int32) :
    W2 (f_X5_readCase_26 P (g + 1) I v (nI i + 1)) (f_X8_readCase_70 (g' + 1) R w w') (CR X b0 D cd len) := by
  refine w2_mono (w2_dd (R := R) (X := X) ?_ (fun I' d1 => D_r70 d1 _ _)) (fun _ _ h => Or.inl h)
  rw [nI_1]
  exact D_c26 hX hP dd (by omega) _
end
section
variable {X : PX} {P : PMem} {b0 len : Nat} {cd : Nat → Nat}
theorem L_c26 (hX : POK X) (hP : P 5 0 0 4 = pxd X) {D0 : Dft} : ∀ m fu fu' i I R b e k D, Al X I R b e k D cd len → RP R D → NP1 D → dC D < 6 → dgg D = dgg D0 → i + m = 6 → m + 2 < fu → m + 2 < fu' → (i = 0 → k = 2) → b0 < b →
    W2 (f_X5_readCase_26 P fu I (nI (dC D)) (nI i)) (f_X8_readCase_70 fu' R (nI (9 * (6 + dC D))) (nI i)) (CR X b0 D0 cd len) := by
  intro m
  induction m with
  | zero =>
    intro fu fu' i I R b e k D A hr hn hC hg hi hf hf' hz hb0
    obtain ⟨g, rfl⟩ : ∃ g, fu = g + 1 + 1 := ⟨fu - 2, by omega⟩
    obtain ⟨g', rfl⟩ : ∃ g', fu' = g' + 1 + 1 := ⟨fu' - 2, by omega⟩
    have hb := A_b A
    have i7 : i = 6 := by omega
    subst i7
    unfold f_X5_readCase_26 f_X8_readCase_70
    refine w2_nl (by decide) (w2_nl (by decide) (w2_pr (Al_r A) ?_))
    rw [Al_kc A, Al_kr A]
    by_cases k2 : k = 2
    · have kq : nI k = 2 := by rw [k2]; rfl
      refine w2_pl kq (w2_pr kq (w2_pr rfl ?_))
      have r := L_ref A (v := 2) (by decide)
      unfold f_X5_readCase_44 f_X5_readProof f_X8_readCase_96
      rw [if_neg (by decide), r.1, Option.bind_some, Option.bind_some, r.2.1, Option.bind_some, d_tnow (Dd_r r.2.2), Option.bind_some, if_neg (Dd_r r.2.2), D_r125 r.2.2]
      exact DD_cas hX hP r.2.2 (by omega) _ _ _
    · have kq : ¬ nI k = 2 := by rw [n_2, nI_eq (by omega) (by omega)]; exact k2
      refine w2_nl kq (w2_nr kq ?_)
      unfold f_X5_readCase_56 f_X8_readCase_171
      rw [hP]
      exact w2_gdl (dlt hX.1) (w2_some (Or.inr ⟨b, e, k, _, Al_cas A hC hr, hb0, hg, hn⟩))
  | succ m ih =>
    intro fu fu' i I R b e k D A hr hn hC hg hi hf hf' hz hb0
    obtain ⟨g, rfl⟩ : ∃ g, fu = g + 1 + 1 := ⟨fu - 2, by omega⟩
    obtain ⟨g', rfl⟩ : ∃ g', fu' = g' + 1 + 1 := ⟨fu' - 2, by omega⟩
    have hb := A_b A
    have hT := A.2.2.2.1.2.2.1.1
    by_cases k2 : k = 2
    · have hb2 := hb.2.2.2.2.2 (by omega)
      have kq : nI k = 2 := by rw [k2]; rfl
      have hP' : P 5 0 0 4 < 2 := by rw [hP]; exact hX.1
      have key : W2 (f_X5_readCase_44 (f_X5_readCase_26 P (g + 1)) P I (nI (dC D)) (nI i)) (f_X8_readCase_96 (f_X8_readCase_70 (g' + 1)) R (nI (9 * (6 + dC D))) (nI i)) (CR X b0 D0 cd len) := by
        unfold f_X5_readCase_44 f_X5_readProof f_X8_readCase_96
        have as : ∀ {o : Option (Int32 × Mem)} {f : Int32 × Mem → Option Mem} {g : Mem → Option Mem}, (o.bind f).bind g = o.bind (fun y => (f y).bind g) := by
          intro o f g; cases o <;> rfl
        rw [if_pos (show nI i < 6 from nI_lt (b := 6) (by omega) (by omega)), as]
        refine w2_bb (L_town hX hP A) ?_
        rintro a c (⟨t, ht, _, ea, ec⟩ | ⟨dd, q1, q2⟩)
        · have ea1 : a.1 = nI t := by rw [ea]
          have ea2 : a.2 = I := by rw [ea]
          have ec1 : c.1 = nI t := by rw [ec]
          have ec2 : c.2 = R := by rw [ec]
          rw [ea1, ea2, ec1, ec2, if_pos (Al_c A), if_pos (Al_r A), hP, gd_t (dlt hX.1), gd_t (inb_n (by omega)), gd_t (inb_n (by omega)), nI_add, gd_t (inb_n (by omega)), nI_clamp (n := dC D) (by omega), nI_clamp (n := t) (by omega), nI_clamp (by omega)]
          have x1 := A.2.2.2.1.1.2.2.2.2 (dC D) t hC (by omega)
          have x2 := hr t (by omega)
          by_cases z : dpf D (dC D) t = -1
          · rw [if_pos (by rw [x1]; exact z), if_pos (by rw [x2]; exact z)]
            unfold f_X5_readProof_44 f_X8_readCase_125 f_X8_readCase_136
            rw [if_pos (Al_r A)]
            have as2 : ∀ {o : Option Mem} {f : Mem → Option Mem} {g : Mem → Option Mem}, (o.bind f).bind g = o.bind (fun y => (f y).bind g) := by
              intro o f g; cases o <;> rfl
            rw [as2]
            refine w2_bb (L_advF hX A) ?_
            rintro I1 R1 ⟨b1, e1, k1, A1, hb1, F1⟩
            rw [as]
            refine w2_bb (L_takeF hX A1 (lo := 0) (hi := 9) (by omega) (by omega) rfl rfl) ?_
            rintro a c (⟨w, b3, e3, k3, w1, w2, w3, w4, w5, A3, hb3, F3⟩ | ⟨dd, _⟩)
            · have hb4 := A_b A1
              rw [if_pos (Al_c A3), if_pos (Al_r A3), hP, gd_t (dlt hX.1), gd_t (inb_n (by omega)), gd_t (inb_n (by omega)), nI_add, gd_t (inb_n (by omega)), nI_clamp (n := dC D) (by omega), nI_clamp (n := t) (by omega), nI_clamp (by omega), w4, w5]
              simp only [bnd]
              rw [Option.bind_some, nI_1]
              refine ih (g + 1) (g' + 1) (i + 1) _ _ b3 e3 k3 (sPf D t (nI w)) (Al_pf A3 hC (t := t) (v := nI w) (by omega)) (fun t' ht' => ?_) (fun c t' h1 h2 h3 => ?_) hC hg (by omega) (by omega) (by omega) (by omega) (by omega)
              · show upd4 c.2 57 0 0 (9 * (6 + dC D) + t) (nI w) 57 0 0 (9 * (6 + dC D) + t') = if dC D = dC D ∧ t' = t then nI w else dpf D (dC D) t'
                rw [u_if]
                by_cases q : t' = t
                · rw [if_pos ⟨rfl, by omega⟩, if_pos ⟨rfl, q⟩]
                · rw [if_neg (by omega), if_neg (by omega), F3.2 57 (by omega), F1.2 57 (by omega)]; exact hr t' ht'
              · show (if c = dC D ∧ t' = t then nI w else dpf D c t') = -1
                have h1' : dC D + 1 ≤ c := h1
                rw [if_neg (by omega)]; exact hn c t' h1' h2 h3
            · rw [if_neg (Dd_c dd), if_neg (Dd_r dd), Option.bind_some]
              exact DD_cas hX hP dd (by omega) _ _ _
          · have r := L_ref A (v := 4) (by decide)
            rw [if_neg (by rw [x1]; exact z), if_neg (by rw [x2]; exact z), r.1, Option.bind_some, r.2.1, Option.bind_some, D_p44 r.2.2, Option.bind_some, D_r125 r.2.2]
            exact DD_cas hX hP r.2.2 (by omega) _ _ _
        · rw [if_neg (Dd_c dd), if_neg (Dd_r dd), D_p44 dd, Option.bind_some, D_r125 dd]
          exact DD_cas hX hP dd (by omega) _ _ _
      have i7 : ¬ nI i = 6 := by rw [show (6 : Int32) = nI 6 from rfl, nI_eq (by omega) (by omega)]; omega
      unfold f_X5_readCase_26 f_X8_readCase_70
      rw [Al_kc A, Al_kr A]
      refine w2_nl (nI_nlt (a := 6) (by omega) (by omega)) (w2_pr (Al_r A) (w2_pr kq (w2_nr i7 ?_)))
      exact w2_itel (fun _ => key) (fun _ => w2_pl kq key)
    · have kq : ¬ nI k = 2 := by rw [n_2, nI_eq (by omega) (by omega)]; exact k2
      have i0 : i ≠ 0 := fun q => k2 (hz q)
      unfold f_X5_readCase_26 f_X8_readCase_70
      rw [Al_kc A, Al_kr A]
      refine w2_nl (nI_nlt (a := 6) (by omega) (by omega)) (w2_nl (nI_ne0 (by omega) (by omega)) (w2_nl kq (w2_pr (Al_r A) (w2_nr kq ?_))))
      unfold f_X5_readCase_56 f_X8_readCase_171
      rw [hP]
      exact w2_gdl (dlt hX.1) (w2_some (Or.inr ⟨b, e, k, _, Al_cas A hC hr, hb0, hg, hn⟩))
/-- the reference empties the row -/
theorem r_c27 {D : Dft} {I : Mem} {b e k : Nat} (hX : POK X) (hC : dC D < 6) {Q : Mem → Prop} : ∀ m fu i R, i + m = 9 → m < fu → Al X I R b e k D cd len → (∀ t, t < i → R 57 0 0 (9 * (6 + dC D) + t) = -1) →
    (∀ R', Al X I R' b e k D cd len → (∀ t, t < 9 → R' 57 0 0 (9 * (6 + dC D) + t) = -1) → wp (if R' 8 0 0 21 = 0 then (if R' 8 0 0 17 = 2 then f_X8_readCase_70 FU R' (nI (9 * (6 + dC D))) 0 else ((f_X8_wrong R' 1).bind fun y1 => f_X8_readCase_70 FU y1 (nI (9 * (6 + dC D))) 0)) else f_X8_readCase_70 FU R' (nI (9 * (6 + dC D))) 0) Q) →
    wp (f_X8_readCase_27 fu R (nI (9 * (6 + dC D))) (nI i)) Q := by
  intro m
  induction m with
  | zero =>
    intro fu i R hi hf A h hq
    obtain ⟨g, rfl⟩ := Nat.exists_eq_succ_of_ne_zero (by omega : fu ≠ 0)
    unfold f_X8_readCase_27
    exact wp_pos (nI_le (a := 9) (by omega) (by omega)) (hq R A (fun t ht => h t (by omega)))
  | succ m ih =>
    intro fu i R hi hf A h hq
    obtain ⟨g, rfl⟩ := Nat.exists_eq_succ_of_ne_zero (by omega : fu ≠ 0)
    unfold f_X8_readCase_27
    rw [nI_add, nI_clamp (by omega), nI_1]
    refine wp_neg (nI_ge (b := 9) (by omega) (by omega)) (wp_gd (inb_n (by omega)) (wp_bnd ?_))
    refine ih g (i + 1) _ (by omega) (by omega) ?_ (fun t ht => ?_) hq
    · have A0 := A
      obtain ⟨⟨kc, kr⟩, _, _, ⟨cc, ⟨r1, r2, r3, r4, r5⟩, o⟩, _⟩ := A
      refine Al_up A0 kc (KR_up kr (by unfold tRg; omega)) rfl rfl rfl rfl (u_c (by omega)) (u_c (by omega)) (by rw [u_c (by omega)]) (u_c (by omega)) cc ⟨?_, ?_, ?_, ?_, fun c t' hc ht' => ?_⟩ o
      · rw [u_c (by omega)]; exact r1
      · rw [u_c (by omega)]; exact r2
      · rw [u_c (by omega), u_c (by omega), u_c (by omega), u_c (by omega)]; exact r3
      · rw [u_c (by omega)]; exact r4
      · rw [u_r (by omega)]; exact r5 c t' hc ht'
    · rw [u_if]
      by_cases q : t = i
      · rw [if_pos ⟨rfl, by omega⟩]
      · rw [if_neg (by omega)]; exact h t (by omega)
end
theorem L_readCase {X : PX} {P : PMem} {len : Nat} {cd : Nat → Nat} {D : Dft} (hX : POK X) (hP : P 5 0 0 4 = pxd X) {I R : Mem} {b e k : Nat} (A : Al X I R b e k D cd len) (hk : k ≠ 0) (hN : NP D) : W2 (f_X5_readCase P I) (f_X8_readCase R) (CR X b D cd len) := by
  have hb := A_b A
  have hb2 := hb.2.2.2.2.2 hk
  have o1 := A.2.2.2.1.2.2.1
  obtain ⟨g, hFU⟩ : ∃ g, FU = g + 2 := ⟨1998, rfl⟩
  unfold f_X5_readCase f_X8_readCase
  simp only [bnd]
  rw [hP, A.2.2.2.1.1.1.2.2.2.2.2, r_another A (i := 5) (by omega) A.2.2.2.1.2.1.1.2.2.2.2.2 (m := dC D) (N := 6) (by omega) (by omega) (vi := 5) (vN := 6) rfl rfl]
  refine w2_gdl (dlt hX.1) ?_
  by_cases q : dC D = 6
  · have r := L_ref A (v := 2) (by decide)
    rw [if_pos q, Option.bind_some, if_neg (show ¬ nI (dC D) < 6 from nI_nlt (b := 6) (by omega) (by omega)), r.1, Option.bind_some]
    exact w2_pr rfl (w2_some (Or.inl r.2.2))
  · have hC : dC D < 6 := by omega
    rw [if_neg q, if_pos (show nI (dC D) < 6 from nI_lt (b := 6) (by omega) (by omega))]
    have as : ∀ {o : Option Mem} {f : Mem → Option (Int32 × Mem)} {g : Int32 × Mem → Option Mem}, (o.bind f).bind g = o.bind (fun y => (f y).bind g) := by
      intro o f g; cases o <;> rfl
    rw [as]
    refine w2_bb (L_adv hX A) ?_
    rintro I1 R1 ⟨b1, e1, k1, A1, hb1⟩
    generalize hy : ((1 : Int32), R1) = y
    have y1 : ¬ y.1 = 0 := by rw [← hy]; exact (by decide : ¬ (1 : Int32) = 0)
    have y2 : y.2 = R1 := by rw [← hy]
    rw [Option.bind_some, if_neg y1, y2, A1.2.2.2.1.2.1.1.2.2.2.2.2, show (6 : Int32) = nI 6 from rfl, nI_add, n_9, pk_mul, n_0]
    have hb3 := A_b A1
    have main : ∀ R', Al X I1 R' b1 e1 k1 D cd len → (∀ t, t < 9 → R' 57 0 0 (9 * (6 + dC D) + t) = -1) → W2 (f_X5_readCase_26 P FU I1 (nI (dC D)) (nI 0)) (if R' 8 0 0 21 = 0 then (if R' 8 0 0 17 = 2 then f_X8_readCase_70 FU R' (nI (9 * (6 + dC D))) 0 else ((f_X8_wrong R' 1).bind fun y1 => f_X8_readCase_70 FU y1 (nI (9 * (6 + dC D))) 0)) else f_X8_readCase_70 FU R' (nI (9 * (6 + dC D))) 0) (CR X b D cd len) := by
      intro R' A2 h57
      refine w2_pr (Al_r A2) ?_
      by_cases k2 : k1 = 2
      · refine w2_pr ((Al_kr A2).trans (by rw [k2]; rfl)) ?_
        rw [n_0]
        exact L_c26 hX hP 6 FU FU 0 I1 R' b1 e1 k1 D A2 (fun t ht => by rw [h57 t ht]; exact (hN (dC D) t (Nat.le_refl _) hC ht).symm) (fun c t h1 h2 h3 => hN c t (by omega) h2 h3) hC rfl (by omega) (by unfold FU; omega) (by unfold FU; omega) (fun _ => k2) (by omega)
      · have kq : ¬ nI k1 = 2 := by rw [n_2, nI_eq (by omega) (by omega)]; exact k2
        have r := L_ref A2 (v := 1) (by decide)
        refine w2_nr (fun y => kq ((Al_kr A2).symm.trans y)) (w2_rE _ r.2.1 ?_)
        rw [hFU]
        unfold f_X5_readCase_26
        refine w2_nl (by decide) (w2_pl rfl ?_)
        unfold f_X5_readCase_44 f_X5_readProof
        have lk : f_X5_lookAtTown P I1 = some (-1, rfC I1 1) := by
          unfold f_X5_lookAtTown f_X5_lookAtNumber
          rw [Al_kc A2, if_neg kq, r.1, Option.bind_some, Option.bind_some, gd_t (dlt (by rw [hP]; exact hX.1))]
          dsimp only
          rw [d_ref (Dd_c r.2.2), Option.bind_some]
          unfold f_X5_lookAtTown_25
          rw [if_neg (Dd_c r.2.2)]
          split <;> rfl
        rw [if_pos (by decide), lk, Option.bind_some]
        show W2 ((if rfC I1 1 5 0 0 0 = 0 then _ else f_X5_readProof_44 P (rfC I1 1) (nI (dC D)) (-1)).bind _) _ _
        rw [if_neg (Dd_c r.2.2), D_p44 r.2.2, Option.bind_some]
        exact DD_cas hX hP r.2.2 (by omega) _ _ _
    have r27 := r_c27 (I := I1) (b := b1) (e := e1) (k := k1) (D := D) (cd := cd) (len := len) hX hC (Q := fun R2 => ∃ I2, f_X5_readCase_26 P FU I1 (nI (dC D)) (nI 0) = some I2 ∧ CR X b D cd len I2 R2) 9 FU 0 R1 (by omega) (by unfold FU; omega) A1 (fun t ht => by omega) (fun R' A' h' => by
      obtain ⟨I2, R2, e1, e2, h⟩ := main R' A' h'
      exact ⟨R2, e2, I2, e1, h⟩)
    obtain ⟨R2, e2, I2, e1, h⟩ := r27
    exact ⟨I2, R2, e1, e2, h⟩
