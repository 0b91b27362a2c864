/-! pairs of calls: acts -/
def ACT : List (Nat × Nat) := [(0, 0), (9, 0), (10, 0), (7, 0), (6, 0), (6, 1), (6, 2), (6, 3), (6, 4), (44, 0), (44, 1), (44, 2), (44, 3), (44, 4), (45, 0), (45, 1), (45, 2), (45, 3), (45, 4), (46, 0), (46, 1), (46, 2), (46, 3), (46, 4)]
def RACT : List (Nat × Nat) := [(8, 0), (53, 0), (59, 0), (62, 0), (63, 0), (64, 0), (65, 0), (77, 0), (78, 0), (79, 0)]
section
variable {I : Mem} {P : PMem} {l : Nat} {a : Abs} {O : Nat → Int64} {D : Bool} {n : Nat}
theorem GC_act {I' : Mem} {E' : Bx} (h : GC I P l a) (F : Fr ACT I I') (h7 : ∀ f, f ≠ 10 → I' 7 0 0 f = I 7 0 0 f) (hs : I' 7 0 0 10 = 0 ∨ (I' 7 0 0 10 = I 7 0 0 10 ∧ xB E' = xB (yE a))) (hx : BxC I' 0 (lJ (yL a)) E') : GC I' P l (setE a E') := by
  obtain ⟨p, c1, c2, c3, c4, c5, c6, c7⟩ := h
  refine ⟨p, CL_fr c1 F (by simp [ACT]), hx, by rw [h7 7 (by omega)]; exact c3, fun q => ?_, ?_, by rw [h7 11 (by omega)]; exact c6, ?_⟩
  · have := c4 q
    unfold BxC CB cRw at this ⊢
    show (_ ∧ _)
    rw [F.g (c := 9) (z := 1) (by simp [ACT]), F.g (c := 0) (z := 1) (by simp [ACT]), F.g (c := 10) (z := 1) (by simp [ACT]), F.g (c := 6) (z := 5 * 1) (by simp [ACT]), F.g (c := 44) (z := 5 * 1) (by simp [ACT]), F.g (c := 45) (z := 5 * 1) (by simp [ACT]), F.g (c := 46) (z := 5 * 1) (by simp [ACT]), F.g (c := 6) (z := 5 * 1 + 1) (by simp [ACT]), F.g (c := 44) (z := 5 * 1 + 1) (by simp [ACT]), F.g (c := 45) (z := 5 * 1 + 1) (by simp [ACT]), F.g (c := 46) (z := 5 * 1 + 1) (by simp [ACT]), F.g (c := 6) (z := 5 * 1 + 2) (by simp [ACT]), F.g (c := 44) (z := 5 * 1 + 2) (by simp [ACT]), F.g (c := 45) (z := 5 * 1 + 2) (by simp [ACT]), F.g (c := 46) (z := 5 * 1 + 2) (by simp [ACT]), F.g (c := 6) (z := 5 * 1 + 3) (by simp [ACT]), F.g (c := 44) (z := 5 * 1 + 3) (by simp [ACT]), F.g (c := 45) (z := 5 * 1 + 3) (by simp [ACT]), F.g (c := 46) (z := 5 * 1 + 3) (by simp [ACT]), F.g (c := 6) (z := 5 * 1 + 4) (by simp [ACT]), F.g (c := 44) (z := 5 * 1 + 4) (by simp [ACT]), F.g (c := 45) (z := 5 * 1 + 4) (by simp [ACT]), F.g (c := 46) (z := 5 * 1 + 4) (by simp [ACT])]
    exact this
  · rw [h7 1 (by omega), F.g (c := 47) (z := 0) (by simp [ACT])]; exact c5
  · rcases hs with hs | ⟨hs, hB⟩
    · exact Or.inl hs
    · rw [hs]
      rcases c7 with q | ⟨q, s1, s2, s3, s4, s5, s6⟩
      · exact Or.inl q
      · refine Or.inr ⟨q, ?_⟩
        show stl I' P 0 l (yL a) (xB E')
        rw [hB]
        refine ⟨s1, s2, ?_, cJ_fr s4 F (by simp [ACT]), vS_fr s5 F (by simp [ACT]), ?_⟩
        · rw [F.g (c := 1) (z := 0) (by simp [ACT])]; exact s3
        · rw [F.g (c := 24) (z := 0) (by simp [ACT])]; exact s6
theorem GR_act {I' : Mem} {E' : Bx} (h : GR I a) (F : Fr RACT I I') (k : ∀ f, f = 14 ∨ f = 23 ∨ f = 54 ∨ f = 55 ∨ f = 56 → I' 8 0 0 f = I 8 0 0 f) (hx : RX I' (lJ (yL a)) E') : GR I' (setE a E') := by
  obtain ⟨g1, g2, g3, g4, g5, g6⟩ := h
  refine ⟨RL_fr g1 F (by simp [RACT]), hx, by rw [k 54 (by omega)]; exact g3, fun q => ?_, ?_, by rw [k 23 (by omega)]; exact g6⟩
  · have := g4 q
    unfold RV pkd rSn at this ⊢
    show (_ ∧ _)
    rw [F.g (c := 80) (z := 0) (by simp [RACT]), F.g (c := 81) (z := 0) (by simp [RACT]), F.g (c := 82) (z := 0) (by simp [RACT]), F.g (c := 82 + 1) (z := 0) (by simp [RACT]), F.g (c := 82 + 2) (z := 0) (by simp [RACT]), F.g (c := 85) (z := 0) (by simp [RACT]), k 55 (by omega), k 56 (by omega)]
    exact this
  · rw [k 14 (by omega), F.g (c := 60) (z := 0) (by simp [RACT])]; exact g5
theorem AOK_act {E' : Bx} (h : AOK a) (hx : XOK (yL a) E') : AOK (setE a E') := ⟨h.1, hx, h.2.2.1, h.2.2.2.1, h.2.2.2.2⟩
/-- refused acts -/
def incE (E : Bx) (i : Nat) : Bx := (xh E, xna E, xa1 E, xa2 E, xa3 E, xsn E, xs1 E, xs2 E, xs3 E, fun k => if k = i then xst E k + 1 else xst E k)
theorem c_inc (hA : AOK a) (hC : GC I P l a) {i : Nat} (hi : i < 3) : GC (upd4 I 10 0 0 i (I 10 0 0 i + 1)) P l (setE a (incE (yE a) i)) ∧ Kc I (upd4 I 10 0 0 i (I 10 0 0 i + 1)) := by
  have F : Fr [(10, 0)] I (upd4 I 10 0 0 i (I 10 0 0 i + 1)) := Fr.up (by simp)
  refine ⟨GC_act hC (F.sub (by simp [ACT])) (fun f _ => by rw [u_c (by decide)]) (Or.inr ⟨by rw [u_c (by decide)], rfl⟩) ?_, F.kc (by simp)⟩
  obtain ⟨x1, x2, x3, x4⟩ := hC.2.2.1
  refine ⟨CB_fr x1 F (by simp), cR_fr x2 F (by simp), cR_fr x3 F (by simp), fun k hk => ?_⟩
  show _ = (if k = i then xst (yE a) k + 1 else xst (yE a) k)
  rw [u_if]
  by_cases e : k = i
  · rw [if_pos ⟨rfl, e⟩, if_pos e, e, x4 i hi]
  · rw [if_neg (fun q => e q.2), if_neg e]; exact x4 k hk
theorem r_inc (hA : AOK a) (hR : GR I a) {i : Nat} (hi : i < 3) : GR (upd4 I 59 0 0 i (I 59 0 0 i + 1)) (setE a (incE (yE a) i)) ∧ Kr I (upd4 I 59 0 0 i (I 59 0 0 i + 1)) := by
  have F : Fr [(59, 0)] I (upd4 I 59 0 0 i (I 59 0 0 i + 1)) := Fr.up (by simp)
  refine ⟨GR_act hR (F.sub (by simp [RACT])) (fun f _ => by rw [u_c (by decide)]) ?_, F.kr (by simp)⟩
  obtain ⟨x1, x2, x3, x4, x5⟩ := hR.2.1
  refine ⟨RB_fr x1 F (F.k8 (by simp)) (by simp), by rw [u_c (by decide)]; exact x2, ?_, ?_, fun k hk => ?_⟩
  · unfold pkd; rw [u_c (show (65 : Nat) ≠ 59 by decide)]; exact x3
  · unfold rSn; rw [u_c (show (8 : Nat) ≠ 59 by decide), u_c (show (77 : Nat) ≠ 59 by decide), u_c (show (77 + 1 : Nat) ≠ 59 by decide), u_c (show (77 + 2 : Nat) ≠ 59 by decide)]; exact x4
  · show _ = (if k = i then xst (yE a) k + 1 else xst (yE a) k)
    rw [u_if]
    by_cases e : k = i
    · rw [if_pos ⟨rfl, e⟩, if_pos e, e, x5 i hi]
    · rw [if_neg (fun q => e q.2), if_neg e]; exact x5 k hk
theorem XOK_inc {L : Land} {E : Bx} (h : XOK L E) (i : Nat) : XOK L (incE E i) := h
theorem c_refuse (hA : AOK a) (hC : GC I P l a) : f_X7_refuseAct I = some (-1, upd4 I 10 0 0 1 (I 10 0 0 1 + 1)) := rfl
/-- an act, kept: the class -/
theorem c_keep (hA : AOK a) (hC : GC I P l a) {I1 : Mem} {B' : Ben} {k w b : Int32} (F : Fr ACT I I1) (h7 : ∀ f, I1 7 0 0 f = I 7 0 0 f) (hb : CB I1 0 (lJ (yL a)) B') (h3 : cRw I1 3 (xna (yE a)) (xa1 (yE a)) (xa2 (yE a)) (xa3 (yE a))) (h4 : cRw I1 4 (xsn (yE a)) (fun k => nI (xs1 (yE a) k)) (fun k => nI (xs2 (yE a) k)) (fun k => bI (xs3 (yE a) k))) (h10 : ∀ k, k < 3 → I1 10 0 0 k = xst (yE a) k) :
    wp (f_X7_keepAct I1 k w b) (fun I2 => GC I2 P l (setE a (pushE (yE a) B' k w b)) ∧ Kc I1 I2 ∧ ∀ z, z ≠ 3 → I2 6 z = I1 6 z) := by
  unfold f_X7_keepAct
  refine wp_bind (c_acts (B' := B') hA.2.1.2.1 h3) ?_
  rintro I2 ⟨c2, F2⟩
  refine wp_bnd (wp_some ?_)
  have F3 : Fr [(7, 0)] I2 (upd4 I2 7 0 0 10 0) := Fr.up (by simp)
  have F23 : Fr [(7, 0), (6, 3), (44, 3), (45, 3), (46, 3)] I1 (upd4 I2 7 0 0 10 0) := (F2.sub (by simp [Lrow])).tr (F3.sub (by simp))
  refine ⟨GC_act hC (F.tr (F23.sub (by simp [ACT]))) (fun f hf => ?_) (Or.inl u_at) ⟨?_, cR_fr c2 F3 (by simp), cR_fr (cR_fr h4 F2 (by simp [Lrow])) F3 (by simp), ?_⟩, F23.kc (by simp), fun z hz => ?_⟩
  · rw [u_if, if_neg (fun q => hf q.2), F2.g (c := 7) (z := 0) (by simp [Lrow]), h7 f]
  · rw [pushE_B]
    obtain ⟨y1, y2, y3, y4, y5⟩ := hb
    refine ⟨?_, ?_, cR_fr y3 F23 (by simp), cR_fr y4 F23 (by simp), cR_fr y5 F23 (by simp)⟩
    · rw [F23.g (c := 9) (z := 0) (by simp)]; exact y1
    · rw [F23.g (c := 0) (z := 0) (by simp)]; exact y2
  · rw [F23.g (c := 10) (z := 0) (by simp)]; exact h10
  · exact F23.g (by simp; exact fun e => hz e)
theorem RX_push {E : Bx} {J : Nat} {B' : Ben} {k w b : Int32} (hn : xna E ≤ 40) (h1 : RB I J B') (h2 : I 8 0 0 33 = nI (nnE E)) (h3 : ∀ k, k < nnE E → pkd I 65 (45 * k) J (hhE E k)) (h4 : rSn I 77 34 E) (h5 : ∀ k, k < 3 → I 59 0 0 k = xst E k) : RX I J (pushE E B' k w b) := by
  refine ⟨by rw [pushE_B]; exact h1, h2, fun i hi => ?_, h4, h5⟩
  have hi' : i < nnE E := hi
  show pkd I 65 (45 * i) J (if i = nnE E then B' else hhE E i)
  rw [if_neg (by omega)]; exact h3 i hi'
/-- an act, kept: the reference -/
theorem r_done {I2 I3 I4 : Mem} {B' : Ben} {k w b : Int32} (hA : AOK a) (r1 : GR I2 a) (F3 : Fr [(8, 0), (65, 0)] I2 I3) (f3 : ∀ f, f ≠ 33 → I3 8 0 0 f = I2 8 0 0 f) (n3 : I3 8 0 0 33 = nI (nnE (yE a))) (p3 : ∀ k, k < nnE (yE a) → pkd I3 65 (45 * k) (lJ (yL a)) (hhE (yE a) k))
    (F4 : Fr [(8, 0), (53, 0), (62, 0), (63, 0), (64, 0)] I3 I4) (f4 : ∀ f, f < 29 ∨ 32 < f → I4 8 0 0 f = I3 8 0 0 f) (rb : RB I4 (lJ (yL a)) B') :
    GR I4 (setE a (pushE (yE a) B' k w b)) ∧ Kr I2 I4 ∧ I4 8 0 0 2 = I2 8 0 0 2 := by
  have z1 := r1.2.1
  have F : Fr RACT I2 I4 := (F3.sub (by simp [RACT])).tr (F4.sub (by simp [RACT]))
  refine ⟨GR_act r1 F (fun f hf => by rw [f4 f (by omega), f3 f (by omega)]) (RX_push hA.2.1.2.1 rb (by rw [f4 33 (by omega)]; exact n3) ?_ ?_ ?_), F.kr (by simp [RACT]), by rw [f4 2 (by omega), f3 2 (by omega)]⟩
  · unfold pkd; rw [F4.g (c := 65) (z := 0) (by simp)]; exact p3
  · unfold rSn; rw [f4 34 (by omega), f3 34 (by omega), F4.g (c := 77) (z := 0) (by simp), F4.g (c := 77 + 1) (z := 0) (by simp), F4.g (c := 77 + 2) (z := 0) (by simp), F3.g (c := 77) (z := 0) (by simp), F3.g (c := 77 + 1) (z := 0) (by simp), F3.g (c := 77 + 2) (z := 0) (by simp)]; exact z1.2.2.2.1
  · rw [F4.g (c := 59) (z := 0) (by simp), F3.g (c := 59) (z := 0) (by simp)]; exact z1.2.2.2.2
/-- the shape of an act's pair -/
def Qa (I : Mem) (P : PMem) (l : Nat) (a : Abs) (fr : Mem → Option (Int32 × Mem)) (y : (Int32 × Mem) ⊕ Nat) : Prop :=
  (∃ v I1 E', y = Sum.inl (v, I1) ∧ XOK (yL a) E' ∧ GC I1 P l (setE a E') ∧ Kc I I1 ∧ (GR I1 a → wp (fr I1) (fun w => w.1 = v ∧ w.2 8 0 0 2 = 0 ∧ GR w.2 (setE a E') ∧ Kr I1 w.2))) ∨
  (y = Sum.inr 1 ∧ wp (fr I) (fun w => w.2 8 0 0 2 = 1 ∧ GR w.2 a ∧ Kr I w.2))
theorem L_a {fx : Option ((Int32 × Mem) ⊕ Nat)} {fr : Mem → Option (Int32 × Mem)} (hA : AOK a) (hC : GC I P l a) (hR : GR I a) (h : wp fx (Qa I P l a fr)) :
    Pr (fx.bind fun y => match y with
  | Sum.inl q => some ((0 : Int32), q.2, P, vp_updL O 0 q.1.toInt64, D, n)
  | Sum.inr e => if e = 1 then some ((1 : Int32), I, P, O, D, n + 1) else none) fr n := by
  obtain ⟨y, e, h⟩ := h
  rw [e, Option.bind_some]
  rcases h with ⟨v, I1, E', rfl, hX, hC1, hk, hr⟩ | ⟨rfl, hr⟩
  · exact pr_ok rfl uL0 (by omega) (AOK_act hA hX) hC1 (hr (GR_k hR hk))
  · exact pr_no rfl (by decide) (Nat.le_refl _) hA hC hr
/-- refused by both -/
theorem qa_refuse (hA : AOK a) (hC : GC I P l a) {fr : Mem → Option (Int32 × Mem)} (hr : ∀ I1, GR I1 a → wp (fr I1) (fun w => w.1 = -1 ∧ w.2 = upd4 (upd4 I1 8 0 0 2 0) 59 0 0 1 (upd4 I1 8 0 0 2 0 59 0 0 1 + 1))) :
    wp ((f_X7_refuseAct I).bind fun y1 => some (Sum.inl (y1.1, y1.2))) (Qa I P l a fr) := by
  obtain ⟨c1, c2⟩ := c_inc hA hC (i := 1) (by omega)
  refine wp_bindE _ (c_refuse hA hC) (wp_some (Or.inl ⟨-1, _, incE (yE a) 1, rfl, XOK_inc hA.2.1 1, c1, c2, fun hR1 => ?_⟩))
  obtain ⟨r1, r2⟩ := r_code hR1 0
  obtain ⟨r3, r4⟩ := r_inc hA r1 (i := 1) (by omega)
  refine wp_mono (hr _ hR1) ?_
  rintro w ⟨w1, w2⟩
  rw [w2]
  exact ⟨w1, by rw [u_c (by decide)]; exact code0 _, r3, r2.tr r4⟩
theorem r_refuse1 (I : Mem) : wp ((f_X8_refuse I 1).bind fun y1 => some (y1.1, y1.2)) (fun w => w.1 = -1 ∧ w.2 = upd4 I 59 0 0 1 (I 59 0 0 1 + 1)) := by
  unfold f_X8_refuse
  refine wp_bind (R := fun y => y.1 = -1 ∧ y.2 = upd4 I 59 0 0 1 (I 59 0 0 1 + 1)) (wp_gd (by decide) (wp_bnd (wp_some ⟨rfl, rfl⟩))) ?_
  rintro y ⟨y1, y2⟩
  exact wp_some ⟨y1, y2⟩
theorem BOK_day (hA : AOK a) {j : Nat} {d : Int32} (hd : 0 ≤ d.toInt ∧ d.toInt ≤ 60) : BOK (yL a) (bDay (xB (yE a)) j d) ∧ bn (bDay (xB (yE a)) j d) ≤ 4 ∧ bnl (bDay (xB (yE a)) j d) ≤ 4 := by
  obtain ⟨⟨h1, h2⟩, h3, h4⟩ := hA.2.1.1 _ (Nat.le_refl (xna (yE a)))
  refine ⟨⟨fun k hk => ?_, h2⟩, h3, h4⟩
  show 0 ≤ (if k = j then d else bd0 (xB (yE a)) k).toInt ∧ (if k = j then d else bd0 (xB (yE a)) k).toInt ≤ 60
  by_cases e : k = j
  · rw [if_pos e]; exact hd
  · rw [if_neg e]; exact h1 k hk
theorem p_start (h : G I P) (v1 v2 : Int32) : Pr (f_L_start I P O D n v1 v2) (fun I => f_X8_start I v1 v2) n := by
  obtain ⟨l, a, hA, hC, hR⟩ := h
  have hJ5 := hA.1.2.1
  obtain ⟨hR0, hK0⟩ := r_code hR 0
  refine L_a hA hC hR ?_
  unfold f_X7_start
  have i2 : ∀ J : Mem, f_X8_isIn J v2.toInt64 0 60 = some (bI (inR v2 61)) := by
    intro J
    rw [show (60 : Int64) = (nI 60).toInt64 by decide, i64, (inS (v := v2) (n := 60)).resolve_right (by omega)]
  refine wp_thb (q_judge hA hC v1) (fun b1 => ?_) (fun b1 => Or.inr ⟨rfl, ?_⟩)
  · obtain ⟨j, hj, rfl⟩ := inR_t (by omega) b1
    refine wp_bindE _ (q_outside I v2 (n := 60) (by omega)) ?_
    cases b2 : inR v2 61
    · refine wp_neg (by decide) (qa_refuse hA hC (fun I1 hR1 => ?_))
      obtain ⟨r1, r2⟩ := r_code hR1 0
      unfold f_X8_start
      refine wp_bnd (wp_bindE _ (r_judge hA r1 _) ?_)
      rw [b1]
      refine wp_neg (by decide) (wp_bindE _ (i2 _) ?_)
      rw [b2]
      exact wp_pos rfl (r_refuse1 _)
    · obtain ⟨d, hd, ed⟩ := inR_t (by omega) b2
      have hd2 : 0 ≤ v2.toInt ∧ v2.toInt ≤ 60 := by rw [ed, nI_toInt (by omega)]; omega
      refine wp_pos rfl (wp_gd (inb_n (by omega)) (wp_bnd (wp_bnd ?_)))
      have ⟨x1, x2, x3, x4⟩ := hC.2.2.1
      have e9 := x1.1 j hj
      rw [nI_clamp (by omega), e9]
      have F1 : Fr [(9, 0)] I (upd4 I 9 0 0 j v2) := Fr.up (by simp)
      refine wp_bind (c_keep (B' := bDay (xB (yE a)) j v2) (k := 0) (w := nI j) (b := bd0 (xB (yE a)) j) hA hC (F1.sub (by simp [ACT])) (fun f => by rw [u_c (by decide)]) ?_ (cR_fr x2 F1 (by simp)) (cR_fr x3 F1 (by simp)) (by rw [u_c (by decide)]; exact x4)) ?_
      · obtain ⟨y1, y2, y3, y4, y5⟩ := x1
        refine ⟨fun k hk => ?_, by rw [u_c (by decide)]; exact y2, cR_fr y3 F1 (by simp), cR_fr y4 F1 (by simp), cR_fr y5 F1 (by simp)⟩
        show _ = (if k = j then v2 else bd0 (xB (yE a)) k)
        rw [u_if]
        by_cases e : k = j
        · rw [if_pos ⟨rfl, e⟩, if_pos e]
        · rw [if_neg (fun q => e q.2), if_neg e]; exact y1 k hk
      · rintro I2 ⟨g2, k2, _⟩
        have hu : uRel (lJ (yL a)) 0 (nI j) (bd0 (xB (yE a)) j) (xB (yE a)) (bDay (xB (yE a)) j v2) := by
          refine ⟨Or.inl ⟨rfl, ⟨j, hj, rfl, fun k hk => ?_⟩, rfl, rfl, rfl, rfl⟩, fun i _ => ⟨rfl, rfl, rfl⟩, fun i _ => ⟨rfl, rfl, rfl⟩, fun i _ => ⟨rfl, rfl, rfl⟩⟩
          show _ = if k = j then _ else (if k = j then v2 else bd0 (xB (yE a)) k)
          by_cases e : k = j
          · rw [if_pos e, e]
          · rw [if_neg e, if_neg e]
        refine wp_some (Or.inl ⟨_, I2, pushE (yE a) (bDay (xB (yE a)) j v2) 0 (nI j) (bd0 (xB (yE a)) j), rfl, pushE_ok hA.2.1 (BOK_day hA hd2) hu, g2, (F1.kc (by simp)).tr k2, fun hR1 => ?_⟩)
        obtain ⟨r1, r2⟩ := r_code hR1 0
        unfold f_X8_start
        refine wp_bnd (wp_bindE _ (r_judge hA r1 _) ?_)
        rw [b1]
        refine wp_neg (by decide) (wp_bindE _ (i2 _) ?_)
        rw [b2]
        refine wp_neg (by decide) (wp_bind (r_keep hA.1 hA.2.1 r1.2.1) ?_)
        rintro I3 ⟨F3, f3, n3, p3⟩
        refine wp_gd (inb_n (by omega)) (wp_bnd (wp_bnd (wp_some ?_)))
        rw [nI_clamp (by omega)]
        have z1 := r1.2.1
        have e53 : I3 53 0 0 j = bd0 (xB (yE a)) j := by rw [F3.g (c := 53) (z := 0) (by simp)]; exact z1.1.1 j hj
        have u : ∀ c, c ≠ 53 → upd4 I3 53 0 0 j v2 c = I3 c := fun c hc => u_c hc
        have rb : RB (upd4 I3 53 0 0 j v2) (lJ (yL a)) (bDay (xB (yE a)) j v2) := by
          obtain ⟨y1, y2, y3, y4, y5⟩ := z1.1
          refine ⟨fun k hk => ?_, ?_, ?_, ?_, ?_⟩
          · show _ = (if k = j then v2 else bd0 (xB (yE a)) k)
            rw [u_if]
            by_cases e : k = j
            · rw [if_pos ⟨rfl, e⟩, if_pos e]
            · rw [if_neg (fun q => e q.2), if_neg e, F3.g (c := 53) (z := 0) (by simp)]; exact y1 k hk
          · rw [u 8 (by omega), f3 29 (by omega)]; exact y2
          · unfold rR; rw [u 8 (by omega), f3 30 (by omega), u 62 (by omega), F3.g (c := 62) (z := 0) (by simp)]; exact y3
          · unfold rR; rw [u 8 (by omega), f3 31 (by omega), u 63 (by omega), F3.g (c := 63) (z := 0) (by simp)]; exact y4
          · unfold rR; rw [u 8 (by omega), f3 32 (by omega), u 64 (by omega), F3.g (c := 64) (z := 0) (by simp)]; exact y5
        obtain ⟨d1, d2, d3⟩ := r_done (k := 0) (w := nI j) (b := bd0 (xB (yE a)) j) hA r1 F3 f3 n3 p3 (I4 := upd4 I3 53 0 0 j v2) (Fr.up (by simp)) (fun f _ => by rw [u 8 (by omega)]) rb
        exact ⟨e53, d3.trans (code0 I2), d1, r2.tr d2⟩
  · unfold f_X8_start
    refine wp_bnd (wp_bindE _ (r_judge hA hR0 v1) ?_)
    rw [b1]
    exact wp_pos rfl (r_fail1 hR 1)
theorem BOK_inn (hA : AOK a) (x : Int32) : BOK (yL a) (bInn (xB (yE a)) x) ∧ bn (bInn (xB (yE a)) x) ≤ 4 ∧ bnl (bInn (xB (yE a)) x) ≤ 4 := hA.2.1.1 _ (Nat.le_refl (xna (yE a)))
/-- inn's answers are booleans -/
theorem L_inn {fx : Option ((Int32 × Mem) ⊕ Nat)} {fr : Mem → Option (Int32 × Mem)} (hA : AOK a) (hC : GC I P l a) (hR : GR I a) (h : wp fx (fun y => Qa I P l a fr y ∧ ∀ v I1, y = Sum.inl (v, I1) → v = 0 ∨ v = 1)) :
    wp (fx.bind fun y => match y with
  | Sum.inl q => some ((0 : Int32), q.2, P, vp_updL O 0 (if q.1 = 0 then (0 : Int64) else (1 : Int64)), D, n)
  | Sum.inr e => if e = 1 then some ((1 : Int32), I, P, O, D, n + 1) else none) (fun y => wp (fr y.2.1) (fun w => w.2 8 0 0 2 = y.1 ∧ (y.1 = 0 → (w.1 = 0 ∨ w.1 = 1) ∧ y.2.2.2.1 0 = if w.1 = 0 then 0 else 1) ∧ G w.2 y.2.2.1 ∧ y.2.2.2.2.2 ≤ n + 1)) := by
  obtain ⟨y, e, h, hv⟩ := h
  rw [e, Option.bind_some]
  rcases h with ⟨v, I1, E', rfl, hX, hC1, hk, hr⟩ | ⟨rfl, hr⟩
  · refine wp_some ?_
    refine wp_mono (hr (GR_k hR hk)) ?_
    rintro w ⟨w1, w2, w3, w4⟩
    exact ⟨w2, fun _ => ⟨by rw [w1]; exact hv v I1 rfl, by rw [w1]; exact uL0 (O := O) (x := if v = 0 then 0 else 1)⟩, ⟨l, _, AOK_act hA hX, GC_k hC1 w4, w3⟩, by show n ≤ n + 1; omega⟩
  · refine wp_some ?_
    refine wp_mono hr ?_
    rintro w ⟨w2, w3, w4⟩
    exact ⟨w2, fun q => absurd (show (1 : Int32) = 0 from q) (by decide), ⟨l, _, hA, GC_k hC w4, w3⟩, by show n + 1 ≤ n + 1; omega⟩
theorem p_inn (h : G I P) (v1 v2 : Int32) (hv2 : v2 = 0 ∨ v2 = 1) : wp (f_L_inn I P O D n v1 v2) (fun y => wp (f_X8_inn y.2.1 v1 v2) (fun w => w.2 8 0 0 2 = y.1 ∧ (y.1 = 0 → (w.1 = 0 ∨ w.1 = 1) ∧ y.2.2.2.1 0 = if w.1 = 0 then 0 else 1) ∧ G w.2 y.2.2.1 ∧ y.2.2.2.2.2 ≤ n + 1)) := by
  obtain ⟨l, a, hA, hC, hR⟩ := h
  have hT9 := hA.1.1
  obtain ⟨hR0, hK0⟩ := r_code hR 0
  refine L_inn (fr := fun I => f_X8_inn I v1 v2) hA hC hR ?_
  unfold f_X7_inn
  refine wp_thb (q_town hA hC v1) (fun b1 => ?_) (fun b1 => ⟨Or.inr ⟨rfl, ?_⟩, fun v I1 q => by cases q⟩)
  · obtain ⟨t, ht, rfl⟩ := inR_t (by omega) b1
    have ⟨x1, x2, x3, x4⟩ := hC.2.2.1
    have ei : I 0 0 0 1 = binns (xB (yE a)) := x1.2.1
    have key : ∀ s0 : Bool, wp (f_X7_inn_25 P I (nI t) (bI s0) (bI (bt (binns (xB (yE a))) t))) (fun y => Qa I P l a (fun I1 => bnd (upd4 I1 8 0 0 2 0) fun I1' => f_X8_inn_37 I1' (nI t) (bI s0) (jshr (I1' 8 0 0 29) (nI t) &&& 1)) y ∧ ∀ v I1, y = Sum.inl (v, I1) → v = 0 ∨ v = 1) := by
      intro s0
      unfold f_X7_inn_25
      refine wp_ite (fun q => ?_) (fun q => wp_bnd ?_)
      · obtain ⟨c1, c2⟩ := c_inc hA hC (i := 1) (by omega)
        refine wp_bindE _ (c_refuse hA hC) (wp_some ⟨Or.inl ⟨0, _, incE (yE a) 1, rfl, XOK_inc hA.2.1 1, c1, c2, fun hR1 => ?_⟩, fun v I1 e => by cases e; exact Or.inl rfl⟩)
        obtain ⟨r1, r2⟩ := r_code hR1 0
        obtain ⟨r3, r4⟩ := r_inc hA r1 (i := 1) (by omega)
        refine wp_bnd ?_
        have e29 : upd4 (upd4 I 10 0 0 1 (I 10 0 0 1 + 1)) 8 0 0 2 0 8 0 0 29 = binns (xB (yE a)) := r1.2.1.1.2.1
        unfold f_X8_inn_37
        rw [e29, ssh1 (by omega)]
        refine wp_pos q (wp_bnd (wp_some ⟨rfl, ?_, r3, r2.tr r4⟩))
        show upd4 (upd4 (upd4 I 10 0 0 1 (I 10 0 0 1 + 1)) 8 0 0 2 0) 59 0 0 1 (upd4 (upd4 I 10 0 0 1 (I 10 0 0 1 + 1)) 8 0 0 2 0 59 0 0 1 + 1) 8 0 0 2 = 0
        rw [u_c (show (8 : Nat) ≠ 59 by decide)]; exact code0 _
      · rw [ei]
        have F1 : Fr [(0, 0)] I (upd4 I 0 0 0 1 (binns (xB (yE a)) ^^^ jshl 1 (nI t))) := Fr.up (by simp)
        refine wp_bind (c_keep (B' := bInn (xB (yE a)) (binns (xB (yE a)) ^^^ jshl 1 (nI t))) (k := 1) (w := nI t) (b := 0) hA hC (F1.sub (by simp [ACT])) (fun f => by rw [u_c (by decide)]) ?_ (cR_fr x2 F1 (by simp)) (cR_fr x3 F1 (by simp)) (by rw [u_c (by decide)]; exact x4)) ?_
        · obtain ⟨y1, y2, y3, y4, y5⟩ := x1
          exact ⟨by rw [u_c (by decide)]; exact y1, u_at, cR_fr y3 F1 (by simp), cR_fr y4 F1 (by simp), cR_fr y5 F1 (by simp)⟩
        · rintro I2 ⟨g2, k2, _⟩
          have hu : uRel (lJ (yL a)) 1 (nI t) 0 (xB (yE a)) (bInn (xB (yE a)) (binns (xB (yE a)) ^^^ jshl 1 (nI t))) := by
            refine ⟨Or.inr (Or.inl ⟨rfl, ⟨t, by omega, rfl, ?_⟩, fun _ _ => rfl, rfl, rfl, rfl⟩), fun i _ => ⟨rfl, rfl, rfl⟩, fun i _ => ⟨rfl, rfl, rfl⟩, fun i _ => ⟨rfl, rfl, rfl⟩⟩
            show _ = (binns (xB (yE a)) ^^^ jshl 1 (nI t)) ^^^ jshl 1 (nI t)
            apply b_ext
            intro i hi
            rw [b_xor, b_xor]
            cases bt (binns (xB (yE a))) i <;> cases bt (jshl 1 (nI t)) i <;> rfl
          refine wp_some ⟨Or.inl ⟨_, I2, pushE (yE a) (bInn (xB (yE a)) (binns (xB (yE a)) ^^^ jshl 1 (nI t))) 1 (nI t) 0, rfl, pushE_ok hA.2.1 (BOK_inn hA _) hu, g2, (F1.kc (by simp)).tr k2, fun hR1 => ?_⟩, fun v I1 e => by cases e; exact Or.inr rfl⟩
          obtain ⟨r1, r2⟩ := r_code hR1 0
          refine wp_bnd ?_
          have e29 : upd4 I2 8 0 0 2 0 8 0 0 29 = binns (xB (yE a)) := r1.2.1.1.2.1
          unfold f_X8_inn_37
          rw [e29, ssh1 (by omega)]
          refine wp_neg q (wp_bind (r_keep hA.1 hA.2.1 r1.2.1) ?_)
          rintro I3 ⟨F3, f3, n3, p3⟩
          refine wp_bnd (wp_some ?_)
          have e29' : I3 8 0 0 29 = binns (xB (yE a)) := by rw [f3 29 (by omega)]; exact e29
          rw [e29']
          have z1 := r1.2.1
          have uf : ∀ f, f ≠ 29 → upd4 I3 8 0 0 29 (binns (xB (yE a)) ^^^ jshl 1 (nI t)) 8 0 0 f = I3 8 0 0 f := fun f hf => by rw [u_if, if_neg (fun q => hf q.2)]
          have u : ∀ c, c ≠ 8 → upd4 I3 8 0 0 29 (binns (xB (yE a)) ^^^ jshl 1 (nI t)) c = I3 c := fun c hc => u_c hc
          have rb : RB (upd4 I3 8 0 0 29 (binns (xB (yE a)) ^^^ jshl 1 (nI t))) (lJ (yL a)) (bInn (xB (yE a)) (binns (xB (yE a)) ^^^ jshl 1 (nI t))) := by
            obtain ⟨y1, y2, y3, y4, y5⟩ := z1.1
            refine ⟨?_, u_at, ?_, ?_, ?_⟩
            · rw [u 53 (by omega), F3.g (c := 53) (z := 0) (by simp)]; exact y1
            · unfold rR; rw [uf 30 (by omega), f3 30 (by omega), u 62 (by omega), F3.g (c := 62) (z := 0) (by simp)]; exact y3
            · unfold rR; rw [uf 31 (by omega), f3 31 (by omega), u 63 (by omega), F3.g (c := 63) (z := 0) (by simp)]; exact y4
            · unfold rR; rw [uf 32 (by omega), f3 32 (by omega), u 64 (by omega), F3.g (c := 64) (z := 0) (by simp)]; exact y5
          obtain ⟨d1, d2, d3⟩ := r_done (k := 1) (w := nI t) (b := 0) hA r1 F3 f3 n3 p3 (I4 := upd4 I3 8 0 0 29 (binns (xB (yE a)) ^^^ jshl 1 (nI t))) (Fr.up (by simp)) (fun f hf => uf f (by omega)) rb
          exact ⟨rfl, d3.trans (code0 I2), d1, r2.tr d2⟩
    have fin : ∀ s0 : Bool, (if v2 = 0 then (0 : Int32) else 1) = bI s0 → ∀ y, (Qa I P l a (fun I1 => bnd (upd4 I1 8 0 0 2 0) fun I1' => f_X8_inn_37 I1' (nI t) (bI s0) (jshr (I1' 8 0 0 29) (nI t) &&& 1)) y ∧ ∀ v I1, y = Sum.inl (v, I1) → v = 0 ∨ v = 1) → (Qa I P l a (fun I => f_X8_inn I (nI t) v2) y ∧ ∀ v I1, y = Sum.inl (v, I1) → v = 0 ∨ v = 1) := by
      intro s0 hs0 y hy
      have er : ∀ I1, GR I1 a → f_X8_inn I1 (nI t) v2 = bnd (upd4 I1 8 0 0 2 0) fun I1' => f_X8_inn_37 I1' (nI t) (bI s0) (jshr (I1' 8 0 0 29) (nI t) &&& 1) := by
        intro I1 hR1
        obtain ⟨r1, _⟩ := r_code hR1 0
        unfold f_X8_inn
        rw [bnd_e, bnd_e, r_town hA r1, b1, Option.bind_some, if_neg (by decide), ← hs0]
        by_cases e : v2 = 0
        · rw [if_pos e, if_pos e]; rfl
        · rw [if_neg e, if_neg e]; rfl
      refine ⟨?_, hy.2⟩
      rcases hy.1 with ⟨v, I1, E', h1, h2, h3, h4, h5⟩ | ⟨h1, h2⟩
      · refine Or.inl ⟨v, I1, E', h1, h2, h3, h4, fun hR1 => ?_⟩
        show wp (f_X8_inn I1 (nI t) v2) _
        rw [er I1 hR1]; exact h5 hR1
      · refine Or.inr ⟨h1, ?_⟩
        show wp (f_X8_inn I (nI t) v2) _
        rw [er I hR]; exact h2
    rw [ei, ush1 (by omega)]
    refine wp_ite (fun q => ?_) (fun q => ?_)
    · exact wp_mono (key false) (fin false (by rw [if_pos q]; rfl))
    · exact wp_mono (key true) (fin true (by rw [if_neg q]; rfl))
  · unfold f_X8_inn
    refine wp_bnd (wp_bindE _ (r_town hA hR0 v1) ?_)
    rw [b1]
    refine wp_pos rfl (wp_bnd (wp_some ?_))
    obtain ⟨r1, r2⟩ := r_code hR0 1
    have e2 : upd4 (upd4 I 8 0 0 2 0) 8 0 0 2 1 8 0 0 2 = 1 := u_at
    exact ⟨e2, r1, hK0.tr r2⟩
end
