/-! lines: judges, both readers -/
section
variable {X : PX} {P : PMem} {b0 len : Nat} {D : Dft} {cd : Nat → Nat}
theorem DD_stop (hX : POK X) (hP : P 5 0 0 4 = pxd X) {I R : Mem} (dd : Dd X I R) {J i g g' : Nat} (hJ : J < 5) (hi : i < 7) (v w : Int32) :
    W2 ((f_X5_readStop_50 P I (nI J) (nI i) v).bind fun y1 => f_X5_readJudge_70 P (g + 1) y1.2 (nI J) y1.1 (nI i + 1)) (f_X8_readJudge_75 (g' + 1) R (nI (5 + J)) w) (LnR X b0 D cd len) := by
  refine w2_mono (w2_dd (R := R) (X := X) (wp_bind (D_stop50 hX hP dd hJ hi v) (fun r d1 => ?_)) (fun I' d1 => D_r75 d1 hJ w)) (fun _ _ h => Or.inl h)
  rw [nI_1]
  exact D_j70 hX hP d1 (by omega) _ _
theorem L_j70 (hX : POK X) (hP : P 5 0 0 4 = pxd X) (hJ : dJ D < 5) {kd st hs : Int32} (hst : 0 ≤ st.toInt ∧ st.toInt ≤ 60) : ∀ m fu fu' i I R b e k rt ah, Al X I R b e k D cd len → JS X I R D i kd st hs rt → i + m = 7 → m + 2 < fu → m + 2 < fu' → (i = 0 → k = 2) → b0 < b → (ah = if i = 0 then -1 else nI (rt (i - 1))) →
    W2 (f_X5_readJudge_70 P fu I (nI (dJ D)) ah (nI i)) (f_X8_readJudge_75 fu' R (nI (5 + dJ D)) (nI i)) (LnR X b0 D cd len) := by
  intro m
  induction m with
  | zero =>
    intro fu fu' i I R b e k rt ah A J hi hf hf' hz hb0 hah
    obtain ⟨g, rfl⟩ : ∃ g, fu = g + 1 + 1 := ⟨fu - 2, by omega⟩
    obtain ⟨g', rfl⟩ : ∃ g', fu' = g' + 1 + 1 := ⟨fu' - 2, by omega⟩
    have hb := A_b A
    have i7 : i = 7 := by omega
    subst i7
    unfold f_X5_readJudge_70 f_X8_readJudge_75
    refine w2_nl (by decide) (w2_nl (by decide) (w2_pr (Al_r A) ?_))
    rw [Al_kc A, Al_kr A]
    by_cases k2 : k = 2
    · have kq : nI k = 2 := by rw [k2]; rfl
      refine w2_pl kq (w2_pr kq (w2_pr rfl ?_))
      have r := L_ref A (v := 2) (by decide)
      unfold f_X5_readJudge_90 f_X5_readStop f_X8_readJudge_101 f_X8_readJudge_153
      refine w2_mono (w2_dd (R := rfR R 2) (X := X) ?_ (fun I' d1 => ?_)) (fun _ _ h => Or.inl h)
      · refine wp_bind (wp_neg (by decide) ?_) (R := fun y => Dd X y.2 (rfR R 2)) (fun y d1 => ?_)
        · rw [r.1]; exact wp_some r.2.2
        · rw [nI_1]; exact D_j70 hX hP d1 (by omega) _ _
      · rw [r.2.1, Option.bind_some, d_tnow (Dd_r r.2.2), Option.bind_some]
        refine wp_neg (Dd_r r.2.2) (wp_neg (Dd_r r.2.2) ?_)
        exact D_r75 d1 hJ _
    · have kq : ¬ nI k = 2 := by rw [n_2, nI_eq (by omega) (by omega)]; exact k2
      refine w2_nl kq (w2_nr kq ?_)
      unfold f_X5_readJudge_105 f_X8_readJudge_186
      rw [hP, nI_clamp (by omega)]
      exact w2_gdl (dlt hX.1) (w2_gdr (inb_n (by omega)) (w2_some (Or.inr ⟨b, e, k, _, Al_jud A hJ J (by omega) hst, hb0, rfl⟩)))
  | succ m ih =>
    intro fu fu' i I R b e k rt ah A J hi hf hf' hz hb0 hah
    obtain ⟨g, rfl⟩ : ∃ g, fu = g + 1 + 1 := ⟨fu - 2, by omega⟩
    obtain ⟨g', rfl⟩ : ∃ g', fu' = g' + 1 + 1 := ⟨fu' - 2, by omega⟩
    have hb := A_b A
    have hT := A.2.2.2.1.2.2.1.1
    have o5 := A.2.2.2.1.2.2.2.2.2.2.1
    by_cases k2 : k = 2
    · have hb2 := hb.2.2.2.2.2 (by omega)
      have kq : nI k = 2 := by rw [k2]; rfl
      have hP' : P 5 0 0 4 < 2 := by rw [hP]; exact hX.1
      have key : W2 (f_X5_readJudge_90 (f_X5_readJudge_70 P (g + 1)) P I (nI (dJ D)) ah (nI i)) (f_X8_readJudge_101 (f_X8_readJudge_75 (g' + 1)) R (nI (5 + dJ D)) (nI i)) (LnR X b0 D cd len) := by
        unfold f_X5_readJudge_90 f_X5_readStop f_X8_readJudge_101
        have as : ∀ {o : Option (Int32 × Mem)} {f : Int32 × Mem → Option (Int32 × Mem)} {g : Int32 × Mem → Option Mem}, (o.bind f).bind g = o.bind (fun y => (f y).bind g) := by
          intro o f g; cases o <;> rfl
        rw [if_pos (show nI i < 7 from nI_lt (b := 7) (by omega) (by omega)), as]
        refine w2_bb (L_town hX hP A) ?_
        rintro ⟨a1, a2⟩ ⟨c1, c2⟩ (⟨t, ht, _, ea, ec⟩ | ⟨dd, q1, q2⟩)
        · obtain ⟨rfl, rfl⟩ := Prod.mk.inj ea
          obtain ⟨rfl, rfl⟩ := Prod.mk.inj ec
          dsimp only
          rw [if_pos (Al_c A), if_pos (Al_r A)]
          have good : (∀ i', i' + 1 = i → 1 ≤ (drm D (rt i') t).toInt) → W2 ((f_X5_readStop_50 P a2 (nI (dJ D)) (nI i) (nI t)).bind fun y1 => f_X5_readJudge_70 P (g + 1) y1.2 (nI (dJ D)) y1.1 (nI i + 1)) (f_X8_readJudge_153 (f_X8_readJudge_75 (g' + 1)) c2 (nI (5 + dJ D)) (nI i) (nI t)) (LnR X b0 D cd len) := by
            intro hj
            unfold f_X5_readStop_50 f_X8_readJudge_153
            rw [hP, nI_clamp (by omega), nI_clamp (by omega), n_7, idx_n, nI_clamp (by omega), gd_t (dlt hX.1), gd_t (inb_n (by omega)), gd_t (inb_n (by omega))]
            simp only [bnd]
            rw [if_pos (Al_r A), gd_t (inb_n (by omega))]
            have A1 := Al_cj (Al_c38 A (i := i) (v := nI t)) (c := 36) (v := nI i + 1) (by omega)
            have A2 := Al_r56 A1 (i := i) (v := nI t)
            have as2 : ∀ {o : Option Mem} {f : Mem → Option (Int32 × Mem)} {g : Int32 × Mem → Option Mem}, (o.bind f).bind g = o.bind (fun y => (f y).bind g) := by
              intro o f g; cases o <;> rfl
            rw [as2]
            refine w2_bb (L_advF hX A2) ?_
            rintro I3 R3 ⟨b3, e3, k3, A3, hb3, F⟩
            rw [Option.bind_some, nI_1]
            refine ih (g + 1) (g' + 1) (i + 1) I3 R3 b3 e3 k3 (fun x => if x = i then t else rt x) (nI t) A3 (JS_f ?_ F) (by omega) (by omega) (by omega) (by omega) (by omega) ?_
            · obtain ⟨⟨j1, j2, j3, j4, j5, j6⟩, j7, j8, j9⟩ := J
              refine ⟨⟨?_, ?_, ?_, ?_, ?_, ?_⟩, fun _ => ?_, fun i' hi' => ?_, fun i' hi' => ?_⟩
              · rw [u_c (by omega), u_c (by omega)]; exact j1
              · rw [u_c (by omega), u_c (by omega)]; exact j2
              · rw [u_c (by omega), u_c (by omega)]; exact j3
              · rw [u_c (by omega)]; exact j4
              · rw [u_c (by omega)]; exact j5
              · rw [u_c (by omega)]; exact j6
              · rw [u_at]; exact nI_1 i
              · rw [u_c (by omega)]
                by_cases q : i' = i
                · subst q; dsimp only; rw [u_at, u_at, if_pos rfl]; exact ⟨rfl, rfl, ht⟩
                · dsimp only; rw [u_r (by omega), u_r (by omega), if_neg q]; exact j8 i' (by omega)
              · dsimp only
                rw [if_neg (by omega : ¬ i' = i)]
                by_cases q : i' + 1 = i
                · rw [if_pos q]; exact hj i' q
                · rw [if_neg q]; exact j9 i' (by omega)
            · rw [if_neg (by omega)]; simp
          by_cases i0 : i = 0
          · subst i0
            rw [if_pos rfl] at hah
            rw [if_pos hah, if_pos (show nI 0 ≤ 0 by decide)]
            exact good (fun i' q => by omega)
          · rw [if_neg i0] at hah
            have jp := J.2.2.1 (i - 1) (by omega)
            subst hah
            rw [if_neg (nI_ni (by omega)), if_neg (nI_nle (by omega) (by omega)), gd_t (dlt hP')]
            unfold f_X3_isJoined f_X8_couple
            have ix : nI 7 * nI (5 + dJ D) + nI i - 1 = nI (7 * (5 + dJ D) + (i - 1)) := by
              rw [idx_n, nI_p1 (by omega)]; congr 1; omega
            rw [n_7, ix, gd_t (inb_n (by omega)), gd_t (inb_n (by omega)), gd_t (inb_n (by omega)), nI_clamp (n := 7 * (5 + dJ D) + (i - 1)) (by omega), jp.2.1, hP, nI_clamp (n := rt (i - 1)) (by omega), nI_clamp (n := t) (by omega), n_9, Option.bind_some, idx_n, show (81 : Int32) = nI 81 from rfl, nI_add, nI_clamp (by omega), gd_t (inb_n (by omega))]
            have x1 := A.2.2.2.1.1.2.1 (rt (i - 1)) t (by omega) (by omega)
            have x2 := A.2.2.2.1.2.1.2.1 (rt (i - 1)) t (by omega) (by omega)
            have x3 := (o5 (rt (i - 1)) t (by omega) (by omega)).2
            by_cases z : drm D (rt (i - 1)) t = 0
            · rw [if_pos (by rw [x1, z]; decide), Option.bind_some, if_pos rfl, if_pos (by rw [x2]; exact z)]
              have r := L_ref A (v := 6) (by decide)
              rw [r.1, Option.bind_some, r.2.1, Option.bind_some]
              unfold f_X8_readJudge_153
              rw [if_neg (Dd_r r.2.2)]
              exact DD_stop hX hP r.2.2 hJ (by omega) _ _
            · have z2 : ¬ drm D (rt (i - 1)) t ≤ 0 := by
                intro y
                rw [fa_le] at y
                exact z (by rw [fa_eq]; have : (0 : Int32).toInt = 0 := rfl; omega)
              rw [if_neg (by rw [x1]; exact z2), Option.bind_some, if_neg (by decide), if_neg (by rw [x2]; exact z)]
              refine good (fun i' q => ?_)
              have : i' = i - 1 := by omega
              subst this
              have z3 : ¬ (drm D (rt (i - 1)) t).toInt = 0 := fun y => z (by rw [fa_eq]; exact y)
              omega
        · dsimp only at dd q1 q2 ⊢
          rw [if_neg (Dd_c dd), if_neg (Dd_r dd)]
          unfold f_X8_readJudge_153
          rw [if_neg (Dd_r dd)]
          exact DD_stop hX hP dd hJ (by omega) _ _
      have i7 : ¬ nI i = 7 := by rw [n_7, nI_eq (by omega) (by omega)]; omega
      unfold f_X5_readJudge_70 f_X8_readJudge_75
      rw [Al_kc A, Al_kr A]
      refine w2_nl (nI_nlt (a := 7) (by omega) (by omega)) (w2_pr (Al_r A) (w2_pr kq (w2_nr i7 ?_)))
      exact w2_itel (fun _ => key) (fun _ => w2_pl kq key)
    · have kq : ¬ nI k = 2 := by rw [n_2, nI_eq (by omega) (by omega)]; exact k2
      have i0 : i ≠ 0 := fun q => k2 (hz q)
      unfold f_X5_readJudge_70 f_X8_readJudge_75
      rw [Al_kc A, Al_kr A]
      refine w2_nl (nI_nlt (a := 7) (by omega) (by omega)) (w2_nl (nI_ne0 (by omega) (by omega)) (w2_nl kq (w2_pr (Al_r A) (w2_nr kq ?_))))
      unfold f_X5_readJudge_105 f_X8_readJudge_186
      rw [hP, nI_clamp (by omega)]
      exact w2_gdl (dlt hX.1) (w2_gdr (inb_n (by omega)) (w2_some (Or.inr ⟨b, e, k, _, Al_jud A hJ J (by omega) hst, hb0, rfl⟩)))
theorem L_readJudge (hX : POK X) (hP : P 5 0 0 4 = pxd X) {I R : Mem} {b e k : Nat} (A : Al X I R b e k D cd len) (hk : k ≠ 0) (v : Int32) : W2 (f_X5_readJudge P I v) (f_X8_readJudge R v) (LnR X b D cd len) := by
  have hb := A_b A
  have hb2 := hb.2.2.2.2.2 hk
  have o1 := A.2.2.2.1.2.2.1
  obtain ⟨g, hFU⟩ : ∃ g, FU = g + 2 := ⟨1998, rfl⟩
  unfold f_X5_readJudge f_X8_readJudge
  simp only [bnd]
  rw [hP, A.2.2.2.1.1.1.2.2.2.2.1, r_another A (i := 4) (by omega) A.2.2.2.1.2.1.1.2.2.2.2.1 (m := dJ D) (N := 5) (by omega) (by omega) (vi := 4) (vN := 5) rfl rfl]
  refine w2_gdl (dlt hX.1) ?_
  by_cases q : dJ D = 5
  · have r := L_ref A (v := 2) (by decide)
    rw [if_pos q, Option.bind_some, if_neg (show ¬ nI (dJ D) < 5 from nI_nlt (b := 5) (by omega) (by omega)), r.1, Option.bind_some]
    exact w2_pr rfl (w2_some (Or.inl r.2.2))
  · have hJ : dJ D < 5 := by omega
    rw [if_neg q, if_pos (show nI (dJ D) < 5 from nI_lt (b := 5) (by omega) (by omega))]
    have as : ∀ {o : Option Mem} {f : Mem → Option (Int32 × Mem)} {g : Int32 × Mem → Option Mem}, (o.bind f).bind g = o.bind (fun y => (f y).bind g) := by
      intro o f g; cases o <;> rfl
    rw [as]
    refine w2_bb (L_adv hX A) ?_
    rintro I1 R1 ⟨b1, e1, k1, A1, hb1⟩
    generalize hy : ((1 : Int32), R1) = y
    have y1 : ¬ y.1 = 0 := by rw [← hy]; exact (by decide : ¬ (1 : Int32) = 0)
    have y2 : y.2 = R1 := by rw [← hy]
    rw [Option.bind_some, if_neg y1, y2, A1.2.2.2.1.2.1.1.2.2.2.2.1, n_5, nI_add, nI_clamp (by omega), nI_clamp (by omega), gd_t (inb_n (by omega)), gd_t (inb_n (by omega))]
    have A2 := Al_rj (Al_cj A1 (c := 33) (v := v) (by omega)) (c := 52) (v := v) (by omega)
    refine w2_bb (L_takeF hX A2 (lo := 0) (hi := 60) (by omega) (by omega) rfl rfl) ?_
    rintro ⟨a1, a2⟩ ⟨c1, c2⟩ (⟨w, b3, e3, k3, w1, w2, w3, w4, w5, A3, hb3, F3⟩ | ⟨dd, _⟩)
    · have w4' : a1 = nI w := w4
      have w5' : c1 = nI w := w5
      subst w4' w5'
      have hb5 := A_b A1
      have A4 := Al_rj (Al_cj A3 (c := 34) (v := nI w) (by omega)) (c := 53) (v := nI w) (by omega)
      have hb6 := A_b A3
      refine w2_bb (L_takeF hX A4 (lo := 0) (hi := 9) (by omega) (by omega) rfl rfl) ?_
      rintro ⟨a3, a4⟩ ⟨c3, c4⟩ (⟨u, b5, e5, k5, u1, u2, u3, u4, u5', A5, hb7, F5⟩ | ⟨dd, _⟩)
      · have u4' : a3 = nI u := u4
        have u5'' : c3 = nI u := u5'
        subst u4' u5''
        dsimp only at F3 F5
        have A6 := Al_rj (Al_cj A5 (c := 35) (v := nI u) (by omega)) (c := 54) (v := nI u) (by omega)
        dsimp only
        have hb8 := A_b A5
        have J6 : JS X (upd4 a4 35 (pxd X) 0 (dJ D) (nI u)) (upd4 c4 54 0 0 (5 + dJ D) (nI u)) D 0 v (nI w) (nI u) (fun _ => 0) := by
          refine ⟨⟨?_, ?_, ?_, ?_, ?_, ?_⟩, fun y => by omega, fun _ y => by omega, fun _ y => by omega⟩
          · rw [u_c (by omega), F5.1 33 (by omega), u_c (by omega), F3.1 33 (by omega), u_at]
          · rw [u_c (by omega), F5.1 34 (by omega), u_at]
          · rw [u_at]
          · rw [u_c (by omega), F5.2 52 (by omega), u_c (by omega), F3.2 52 (by omega), u_at]
          · rw [u_c (by omega), F5.2 53 (by omega), u_at]
          · rw [u_at]
        refine w2_pr (Al_r A6) ?_
        by_cases k2 : k5 = 2
        · refine w2_pr ((Al_kr A6).trans (by rw [k2]; rfl)) ?_
          have W := L_j70 (b0 := b) hX hP hJ (kd := v) (st := nI w) (hs := nI u) (by rw [nI_toInt (by omega)]; omega) 7 FU FU 0 _ _ b5 e5 k5 _ (-1) A6 J6 (by omega) (by unfold FU; omega) (by unfold FU; omega) (fun _ => k2) (by omega) (by rw [if_pos rfl])
          rw [← n_0] at W
          exact W
        · have kq : ¬ nI k5 = 2 := by rw [n_2, nI_eq (by omega) (by omega)]; exact k2
          have r := L_ref A6 (v := 1) (by decide)
          refine w2_nr (fun y => kq ((Al_kr A6).symm.trans y)) (w2_rE _ r.2.1 ?_)
          rw [hFU]
          refine w2_mono (w2_dd (R := rfR (upd4 c4 54 0 0 (5 + dJ D) (nI u)) 1) (X := X) ?_ (fun I' d1 => D_r75 (fu := g + 1) d1 hJ _)) (fun _ _ h => Or.inl h)
          unfold f_X5_readJudge_70
          refine wp_neg (by decide) (wp_pos rfl ?_)
          unfold f_X5_readJudge_90 f_X5_readStop
          have lk : f_X5_lookAtTown P (upd4 a4 35 (pxd X) 0 (dJ D) (nI u)) = some (-1, rfC (upd4 a4 35 (pxd X) 0 (dJ D) (nI u)) 1) := by
            unfold f_X5_lookAtTown f_X5_lookAtNumber
            rw [Al_kc A6, if_neg kq, r.1, Option.bind_some, Option.bind_some, gd_t (dlt (by rw [hP]; exact hX.1))]
            dsimp only
            rw [d_ref (Dd_c r.2.2), Option.bind_some]
            unfold f_X5_lookAtTown_25
            rw [if_neg (Dd_c r.2.2)]
            split <;> rfl
          rw [if_pos (by decide), lk, Option.bind_some]
          dsimp only
          rw [if_neg (Dd_c r.2.2), n_0]
          refine wp_bind (D_stop50 hX hP r.2.2 hJ (i := 0) (by omega) _) (fun y d1 => ?_)
          exact D_j70 hX hP d1 (i := 1) (by omega) _ _
      · dsimp only at dd ⊢
        have d1 : Dd X (upd4 a4 35 (pxd X) 0 (dJ D) a3) (upd4 c4 54 0 0 (5 + dJ D) c3) := Dd_rup (Dd_cup dd (by unfold tCg; omega) (by omega)) (by unfold tRg; omega) (by omega)
        refine w2_nr (Dd_r d1) ?_
        rw [hFU]
        exact w2_mono (w2_dd (D_j70z hX hP d1 (fu := g) hJ _) (fun I' d2 => D_r75 (fu := g + 1) d2 hJ _)) (fun _ _ h => Or.inl h)
    · dsimp only at dd ⊢
      have d1 : Dd X (upd4 a2 34 (pxd X) 0 (dJ D) a1) (upd4 c2 53 0 0 (5 + dJ D) c1) := Dd_rup (Dd_cup dd (by unfold tCg; omega) (by omega)) (by unfold tRg; omega) (by omega)
      rw [d_take (Dd_c d1) (Dd_4 d1), d_rnum (Dd_r d1), Option.bind_some, Option.bind_some]
      dsimp only
      have d2 : Dd X (upd4 (upd4 a2 34 (pxd X) 0 (dJ D) a1) 35 (pxd X) 0 (dJ D) (-1)) (upd4 (upd4 c2 53 0 0 (5 + dJ D) c1) 54 0 0 (5 + dJ D) 0) := Dd_rup (Dd_cup d1 (by unfold tCg; omega) (by omega)) (by unfold tRg; omega) (by omega)
      refine w2_nr (Dd_r d2) ?_
      rw [hFU]
      exact w2_mono (w2_dd (D_j70z hX hP d2 (fu := g) hJ _) (fun I' d2 => D_r75 (fu := g + 1) d2 hJ _)) (fun _ _ h => Or.inl h)
end
