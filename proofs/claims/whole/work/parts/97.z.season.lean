/-! pairs of calls: season, both; what is there at the start -/
section
variable {I : Mem} {P : PMem} {l : Nat} {a : Abs} {O : Nat → Int64} {D : Bool} {n : Nat}
theorem p_season (h : G I P) (v1 v2 v3 : Int32) : Pr (f_L_season I P O D n v1 v2 v3) (fun I => f_X8_season I v1 v2 v3) n := by
  obtain ⟨l, a, hA, hC, hR⟩ := h
  have S := B_SOK hA.1 (A_BOK hA).1 (fun _ => false)
  have iw : ∀ (J : Mem) (v : Int32) (m : Nat) (hm : m + 1 < 2 ^ 31) (w : Int64), w = (nI m).toInt64 → f_X8_isIn J v.toInt64 0 w = some (bI (inR v (m + 1))) := by
    intro J v m hm w hw
    rw [hw, i64, (inS (v := v) (n := m)).resolve_right (by omega)]
  have w2 : ∀ J : Mem, f_X8_isIn J v3.toInt64 0 2 = some (bI (inR v3 3)) := fun J => iw J v3 2 (by omega) 2 rfl
  have w40 : ∀ J : Mem, f_X8_isIn J v2.toInt64 0 40 = some (bI (inR v2 41)) := fun J => iw J v2 40 (by omega) 40 rfl
  have q3 := q_what I v3 (n := 2) (by omega)
  unfold f_L_season f_X7_season
  cases b3 : inR v3 3
  · -- no such what
    refine pr_no (e := 1) (n1 := n + 1) (I1 := I) (P1 := P) (O1 := O) (D1 := D) (l := l) (a := a) ?_ (by decide) (Nat.le_refl _) hA hC ?_
    · unfold thb
      rw [n_2, q3, b3]; rfl
    · show wp (f_X8_season I v1 v2 v3) _
      unfold f_X8_season
      refine wp_bnd ?_
      rw [w2, b3, Option.bind_some]
      exact wp_pos rfl (r_fail1 hR 1)
  · cases b2 : inR v2 41
    · refine pr_no (e := 2) (n1 := n + 1) (I1 := I) (P1 := P) (O1 := O) (D1 := D) (l := l) (a := a) ?_ (by decide) (Nat.le_refl _) hA hC ?_
      · unfold thb
        rw [n_2, q3, b3]
        show (((f_X7_isOutside I v2 40).bind _).bind _) = _
        rw [show (40 : Int32) = nI 40 from rfl, q_outside I v2 (by omega), Option.bind_some, b2]; rfl
      · show wp (f_X8_season I v1 v2 v3) _
        unfold f_X8_season
        refine wp_bnd ?_
        rw [w2, b3, Option.bind_some]
        refine wp_neg bI_t ?_
        rw [w40, b2, Option.bind_some]
        exact wp_pos rfl (r_fail1 hR 2)
    · obtain ⟨N, hN, rfl⟩ := inR_t (by omega) b2
      have hC0 := hC
      obtain ⟨⟨p1, p2, p3⟩, c1, _⟩ := hC
      obtain ⟨⟨I1, P1⟩, e1, hC1, hT1, F1, hP1⟩ := q_load1 hA hC0
      obtain ⟨I2, e2, F2, hh2⟩ := q_hear (I := I1) (P := P1) hA.1 (A_BOK hA) S hC1.2.1 hC1.2.2.1.1 hT1.2.2.2 hT1.1 hT1.2.1
      have F2' : Fr (TRI l) I1 I2 := F2.sub (by simp [TRI, LH])
      have hC2 := GC_tr (P' := P1) hC1 F2' (fun _ _ _ => rfl)
      have hT2 : ldT I2 P1 l a (tw0 (yL a)) (dy0 (yL a) (xB (yE a))) := ⟨hT1.1, hT1.2.1, by rw [F2.g (c := 1) (z := 1) (by simp [LH])]; exact hT1.2.2.1, cJ_fr hT1.2.2.2 F2 (by simp [LH])⟩
      have h3 : seT (upd4 (upd4 I2 2 0 0 0 0) 2 0 0 0 v1) P1 l a v1 := seT_s (s := 0) (seT_s (s := I2 2 0 0 0) ⟨hC2, hT2, hh2, rfl⟩)
      have k3 : Kc I (upd4 (upd4 I2 2 0 0 0 0) 2 0 0 0 v1) := (Kc_tr (F1.tr F2')).tr (((Fr.up (S := [(2, 0)]) (by simp)).tr (Fr.up (by simp))).kc (by simp))
      have main : ∃ I3, (if nI N = 0 then ((f_X7_season_70 (upd4 (upd4 I2 2 0 0 0 0) 2 0 0 0 v1) P1 (nI N) v3 (0 : Int32) (0 : Int32)).bind fun yy => some (Sum.inl yy : (Int32 × Mem × PMem) ⊕ Nat)) else ((f_X7_season_70 (upd4 (upd4 I2 2 0 0 0 0) 2 0 0 0 v1) P1 (nI N) v3 (0 : Int32) (6 : Int32)).bind fun yy => some (Sum.inl yy))) = some (Sum.inl (sel3 v3 (sea a N 0 v1 (0, 0, 0)), I3, P1)) ∧ GC I3 P1 l a ∧ Kc (upd4 (upd4 I2 2 0 0 0 0) 2 0 0 0 v1) I3 := by
        unfold f_X7_season_70
        by_cases q : N = 0
        · rw [if_pos (by rw [q]; rfl)]
          obtain ⟨y, e, I3, y1, y2, y3⟩ := c_sea (v3 := v3) hA (N := N) (by omega) N FU 0 _ v1 0 0 0 0 (by omega) (by unfold FU; omega) h3 (fun z => by omega) (fun _ => rfl)
          exact ⟨I3, by rw [n_0] at e ⊢; rw [e, Option.bind_some, y1]; rfl, y2, y3⟩
        · rw [if_neg (nI_ne0 (by omega) (by omega))]
          obtain ⟨y, e, I3, y1, y2, y3⟩ := c_sea (v3 := v3) hA (N := N) (by omega) N FU 0 _ v1 0 6 0 0 (by omega) (by unfold FU; omega) h3 (fun _ => rfl) (fun z => by omega)
          exact ⟨I3, by rw [n_0] at e ⊢; rw [e, Option.bind_some, y1]; rfl, y2, y3⟩
      obtain ⟨I3, m1, m2, m3⟩ := main
      refine pr_ok (v := sel3 v3 (sea a N 0 v1 (0, 0, 0))) (n1 := n + 1) (I1 := I3) (P1 := P1) (O1 := vp_updL O 0 (sel3 v3 (sea a N 0 v1 (0, 0, 0))).toInt64) (D1 := true) (l := l) (a := a) ?_ uL0 (Nat.le_refl _) hA m2 ?_
      · unfold thb
        rw [n_2, q3, b3]
        show (((f_X7_isOutside I (nI N) 40).bind _).bind _) = _
        rw [show (40 : Int32) = nI 40 from rfl, q_outside I (nI N) (by omega), Option.bind_some, b2, p1, e1]
        show ((if _ then gd (decide (l < 2)) ((some (I1, P1)).bind fun y3 => (f_X1_hearAll y3.2 1 y3.1).bind fun y4 => _) else _ : Option ((Int32 × Mem × PMem) ⊕ Nat)).bind _) = _
        rw [if_pos (by decide), gd_t (dlt p2), Option.bind_some, e2, Option.bind_some, bnd_e, m1]
        rfl
      · have hR3 := GR_k hR (k3.tr m3)
        show wp (f_X8_season I3 v1 (nI N) v3) _
        unfold f_X8_season
        refine wp_bnd ?_
        rw [w2, b3, Option.bind_some]
        refine wp_neg bI_t ?_
        rw [w40, b2, Option.bind_some]
        refine wp_neg bI_t (wp_bind (R_set hA hR3) ?_)
        rintro R1 ⟨⟨g0, g2, g40, g41, g42, g43⟩, k1⟩
        refine wp_bnd (wp_bnd ?_)
        have u8 : ∀ f, f ≠ 53 → upd4 R1 8 0 0 53 v1 8 0 0 f = R1 8 0 0 f := fun f hf => by rw [u5, if_neg hf]
        have F : Fr LT8 R1 (upd4 R1 8 0 0 53 v1) := Fr.up (by simp [LT8])
        have uc : ∀ c, c ≠ 8 → upd4 R1 8 0 0 53 v1 c = R1 c := fun c hc => u_c hc
        have gr : GR (upd4 R1 8 0 0 53 v1) a := by
          obtain ⟨q1, q2, q3', q4, q5, q6⟩ := g0
          refine ⟨LdR_eq hA.1 q1 (fun c i hc => by rw [uc c (by omega)]), ?_, by rw [u8 54 (by omega)]; exact q3', fun z => ?_, by rw [u8 14 (by omega), uc 60 (by omega)]; exact q5, by rw [u8 23 (by omega)]; exact q6⟩
          · unfold RX RB rR pkd rSn at q2 ⊢
            rw [u8 29 (by omega), u8 30 (by omega), u8 31 (by omega), u8 32 (by omega), u8 33 (by omega), u8 34 (by omega), uc 53 (by omega), uc 62 (by omega), uc 63 (by omega), uc 64 (by omega), uc 65 (by omega), uc 77 (by omega), uc (77 + 1) (by omega), uc (77 + 2) (by omega), uc 59 (by omega)]
            exact q2
          · have := q4 z
            unfold RV pkd rSn at this ⊢
            rw [u8 55 (by omega), u8 56 (by omega), uc 80 (by omega), uc 81 (by omega), uc 82 (by omega), uc (82 + 1) (by omega), uc (82 + 2) (by omega), uc 85 (by omega)]
            exact this
        have hs : seR (upd4 R1 8 0 0 53 v1) a v1 := ⟨⟨gr, by rw [u8 2 (by omega)]; exact g2, by rw [u8 40 (by omega)]; exact g40, by rw [u8 41 (by omega)]; exact g41, by rw [u8 42 (by omega)]; exact g42, by rw [u8 43 (by omega)]; exact g43⟩, u_at⟩
        have e32 : upd4 R1 8 0 0 53 v1 8 0 0 32 = nI (bnl (xB (yE a))) := gr.2.1.1.2.2.2.2.1
        rw [e32, n_0]
        refine wp_mono (r_sea (v3 := v3) hA (N := N) (by omega) N FU 0 _ v1 (nI 0) (nI 0) (nI 0) (by omega) (by unfold FU; omega) hs) ?_
        rintro w ⟨w1, w2, w3⟩
        exact ⟨w1, w2.2.1, w2.1, k1.tr ((LT8_kr F).tr w3)⟩
end
/-! the start -/
def L0 : Land := (0, 0, 0, (fun _ => 0), (fun _ _ => 0), (fun _ _ => 0), (fun _ _ => 0), (fun _ => 0), (fun _ => 0), (fun _ => 0), 0, (fun _ _ => 0), 10, (fun _ _ => 0), 0)
def B0 : Ben := ((fun _ => 0), 0, 0, (fun _ => 0), (fun _ => 0), (fun _ => 0), 0, (fun _ => 0), (fun _ => 0), (fun _ => 0), 0, (fun _ => 0), (fun _ => 0), (fun _ => 0))
def E0 : Bx := ((fun _ => B0), 0, (fun _ => 0), (fun _ => 0), (fun _ => 0), 0, (fun _ => 0), (fun _ => 0), (fun _ => false), fun _ => 0)
def a0 : Abs := (L0, E0, false, E0, 0, (fun _ => 0), -1)
theorem G0 : G I0 P0 := by
  have no : ∀ {p : Prop} {j : Nat}, j < 0 → p := fun h => absurd h (Nat.not_lt_zero _)
  have z4 : (0 : Nat) ≤ 4 := by omega
  have hX : XOK L0 E0 := ⟨fun k hk => ⟨⟨fun j hj => no hj, z4, by show (0 : Nat) ≤ 6; omega, fun k hk => no hk, by show (0 : Nat) ≤ 5; omega, fun k hk => no hk⟩, z4, z4⟩, by show (0 : Nat) ≤ 40; omega, fun k hk => no hk, by show (0 : Nat) ≤ 8; omega, fun k hk => no hk⟩
  have cr : ∀ z, ∀ a1 a2 a3 : Nat → Int32, cRw I0 z 0 a1 a2 a3 := fun z a1 a2 a3 => ⟨rfl, Nat.zero_le _, fun k hk => no hk⟩
  refine ⟨0, a0, ⟨⟨by show (0 : Nat) ≤ 9; omega, by show (0 : Nat) ≤ 5; omega, by show (0 : Nat) ≤ 6; omega, fun j hj => no hj, fun j hj => no hj, fun j hj => no hj, fun a b ha => no ha, ⟨by show (0 : Nat) ≤ 600; omega, fun q => no q, fun k hk => no hk⟩, fun a b ha => no ha⟩, hX, fun q => absurd (show false = true from q) (by decide), by show (0 : Nat) ≤ 600; omega, fun k => by show (0 : Nat) < 256; omega⟩, ⟨⟨rfl, by omega, rfl⟩, ⟨⟨rfl, by show (0 : Nat) ≤ 5; omega, fun j hj => no hj, fun j hj => no hj, by show (0 : Nat) ≤ 9; omega, fun a ha => no ha⟩, rfl, rfl, fun c hc => no hc, fun j hj => no hj, rfl, fun k hk => no hk, fun a b ha => no ha, ?_, rfl⟩, ⟨⟨fun j hj => no hj, rfl, cr _ _ _ _, cr _ _ _ _, cr _ _ _ _⟩, cr _ _ _ _, cr _ _ _ _, fun k hk => rfl⟩, rfl, fun q => absurd (show false = true from q) (by decide), ⟨rfl, fun k hk => no hk⟩, rfl, Or.inl rfl⟩, ⟨rfl, fun j hj => no hj, fun j hj => no hj, fun a b ha => no ha, rfl, rfl, fun c hc => no hc, fun j hj => no hj, rfl, fun k hk => no hk, fun a b ha => no ha, rfl, rfl⟩, ⟨⟨fun j hj => no hj, rfl, ⟨rfl, fun k hk => no hk⟩, ⟨rfl, fun k hk => no hk⟩, ⟨rfl, fun k hk => no hk⟩⟩, rfl, fun k hk => no hk, ⟨rfl, fun k hk => no hk⟩, fun k hk => rfl⟩, rfl, fun q => absurd (show false = true from q) (by decide), ⟨rfl, fun k hk => no hk⟩, rfl⟩
  show (10 : Int32) = if (0 : Int32) = 0 then 10 else 0
  rw [if_pos rfl]
