/-! pairs of calls: undo -/
def popE (E : Bx) : Bx := (xh E, xna E - 1, xa1 E, xa2 E, xa3 E, xsn E, xs1 E, xs2 E, xs3 E, xst E)
theorem popE_ok {L : Land} {E : Bx} (h : XOK L E) : XOK L (popE E) := by
  obtain ⟨h1, h2, h3, h4, h5⟩ := h
  refine ⟨fun k hk => h1 k ?_, ?_, fun k hk => h3 k ?_, h4, h5⟩
  · have : k ≤ xna E - 1 := hk; omega
  · show xna E - 1 ≤ 40; omega
  · have : k < xna E - 1 := hk; omega
theorem c_last {I : Mem} {z m : Nat} {a1 a2 a3 : Nat → Int32} (h : cRw I z (m + 1) a1 a2 a3) : f_X6_dropLast z I = some (upd4 I 6 z 0 3 (nI m)) ∧ cRw (upd4 I 6 z 0 3 (nI m)) z m a1 a2 a3 := by
  have h40 := rl (b := z)
  have h2 := h.2.1
  constructor
  · unfold f_X6_dropLast
    rw [h.1, if_neg (by rw [n_0, nI_leI (by omega) (by omega)]; omega), nI_p1 (by omega), bnd_e]; rfl
  · refine ⟨u_at, by omega, fun k hk => ?_⟩
    rw [u_c (show (44 : Nat) ≠ 6 by decide), u_c (show (45 : Nat) ≠ 6 by decide), u_c (show (46 : Nat) ≠ 6 by decide)]
    exact h.2.2 k (by omega)
theorem cRw_n {I : Mem} {z n n' : Nat} {a1 a2 a3 b1 b2 b3 : Nat → Int32} (h : cRw I z n a1 a2 a3) (hn : n' = n) (e : ∀ k, k < n' → b1 k = a1 k ∧ b2 k = a2 k ∧ b3 k = a3 k) : cRw I z n' b1 b2 b3 := by
  subst hn
  exact cRw_cong h (fun k hk => ⟨(e k hk).1.symm, (e k hk).2.1.symm, (e k hk).2.2.symm⟩)
section
variable {I : Mem} {P : PMem} {l : Nat} {a : Abs} {O : Nat → Int64} {D : Bool} {n : Nat}
theorem c_back {J : Nat} (hJ : J ≤ 5) {S S' : Ben} {I1 : Mem} {m : Nat} {a1 a2 a3 : Nat → Int32} (h3 : cRw I1 3 m a1 a2 a3) (hm : m < 40) (hb : CB I1 0 J S') (hu : uRel J (I1 44 3 0 m) (I1 45 3 0 m) (I1 46 3 0 m) S S') :
    wp (gd (inb (I1 6 3 0 3) (rowsLen 3)) <| bnd (I1 45 3 0 ((I1 6 3 0 3).toNatClampNeg)) fun x1 =>
      (if (I1 44 3 0 ((I1 6 3 0 3).toNatClampNeg)) = (0 : Int32) then (gd (inb x1 5) <| bnd (upd4 I1 9 0 0 x1.toNatClampNeg (I1 46 3 0 ((I1 6 3 0 3).toNatClampNeg))) fun I1' => some I1')
      else (if (I1 44 3 0 ((I1 6 3 0 3).toNatClampNeg)) = (1 : Int32) then (bnd (upd4 I1 0 0 0 1 ((I1 0 0 0 1) ^^^ (jshl (1 : Int32) x1))) fun I2' => some I2')
      else (if (I1 44 3 0 ((I1 6 3 0 3).toNatClampNeg)) = (2 : Int32) then ((f_X6_dropLast 0 I1).bind fun y2 => some y2)
      else (if (I1 44 3 0 ((I1 6 3 0 3).toNatClampNeg)) = (3 : Int32) then ((f_X6_dropLast 1 I1).bind fun y3 => some y3) else ((f_X6_dropLast 2 I1).bind fun y4 => some y4))))))
      (fun I2 => CB I2 0 J S ∧ Fr [(0, 0), (9, 0), (6, 0), (6, 1), (6, 2)] I1 I2) := by
  obtain ⟨y1, y2, y3, y4, y5⟩ := hb
  obtain ⟨hk, w1, w2, w3⟩ := hu
  have r40 : rowsLen 3 = 40 := rfl
  rw [h3.1, r40]
  refine wp_gd (inb_n hm) (wp_bnd ?_)
  rw [nI_clamp (by omega)]
  rcases hk with ⟨k0, ⟨w, hw, ew, hd⟩, e2, e3, e4, e5⟩ | ⟨k0, ⟨w, hw, ew, hd⟩, e2, e3, e4, e5⟩ | ⟨k0, e1, e2, e3, e4, e5⟩ | ⟨k0, e1, e2, e3, e4, e5⟩ | ⟨k0, e1, e2, e3, e4, e5⟩
  · rw [k0, ew]
    refine wp_pos rfl (wp_gd (inb_n (by omega)) (wp_bnd (wp_some ?_)))
    rw [nI_clamp (by omega)]
    have F : Fr [(9, 0)] I1 (upd4 I1 9 0 0 w (I1 46 3 0 m)) := Fr.up (by simp)
    refine ⟨⟨fun j hj => ?_, ?_, cRw_n (cR_fr y3 F (by simp)) e3 (fun k hk => ⟨(w1 k hk).1, by show nI _ = nI _; rw [(w1 k hk).2.1], (w1 k hk).2.2⟩), cRw_n (cR_fr y4 F (by simp)) e4 (fun k hk => w2 k hk), cRw_n (cR_fr y5 F (by simp)) e5 (fun k hk => ⟨by show nI _ = nI _; rw [(w3 k hk).1], (w3 k hk).2⟩)⟩, F.sub (by simp)⟩
    · rw [u_if, hd j hj]
      by_cases e : j = w
      · rw [if_pos ⟨rfl, e⟩, if_pos e]
      · rw [if_neg (fun q => e q.2), if_neg e]; exact y1 j hj
    · rw [u_c (by decide), e2]; exact y2
  · rw [k0, ew]
    refine wp_neg (by decide) (wp_pos rfl (wp_bnd (wp_some ?_)))
    have F : Fr [(0, 0)] I1 (upd4 I1 0 0 0 1 (I1 0 0 0 1 ^^^ jshl 1 (nI w))) := Fr.up (by simp)
    refine ⟨⟨fun j hj => ?_, ?_, cRw_n (cR_fr y3 F (by simp)) e3 (fun k hk => ⟨(w1 k hk).1, by show nI _ = nI _; rw [(w1 k hk).2.1], (w1 k hk).2.2⟩), cRw_n (cR_fr y4 F (by simp)) e4 (fun k hk => w2 k hk), cRw_n (cR_fr y5 F (by simp)) e5 (fun k hk => ⟨by show nI _ = nI _; rw [(w3 k hk).1], (w3 k hk).2⟩)⟩, F.sub (by simp)⟩
    · rw [u_c (by decide), e2 j hj]; exact y1 j hj
    · rw [u_at, hd, y2]
  · rw [k0]
    refine wp_neg (by decide) (wp_neg (by decide) (wp_pos rfl ?_))
    rw [show 5 * 0 = 0 from rfl, ← e1] at y3
    obtain ⟨d1, d2⟩ := c_last y3
    refine wp_bindE _ d1 (wp_some ?_)
    have F : Fr [(6, 0)] I1 (upd4 I1 6 0 0 3 (nI (bn S))) := Fr.up (by simp)
    refine ⟨⟨fun j hj => ?_, ?_, cRw_n d2 rfl (fun k hk => ⟨(w1 k hk).1, by show nI _ = nI _; rw [(w1 k hk).2.1], (w1 k hk).2.2⟩), cRw_n (cR_fr y4 F (by simp)) e4 (fun k hk => w2 k hk), cRw_n (cR_fr y5 F (by simp)) e5 (fun k hk => ⟨by show nI _ = nI _; rw [(w3 k hk).1], (w3 k hk).2⟩)⟩, F.sub (by simp)⟩
    · rw [u_c (by decide), e2 j hj]; exact y1 j hj
    · rw [u_c (by decide), e3]; exact y2
  · rw [k0]
    refine wp_neg (by decide) (wp_neg (by decide) (wp_neg (by decide) (wp_pos rfl ?_)))
    rw [show 5 * 0 + 1 = 1 from rfl, ← e1] at y4
    obtain ⟨d1, d2⟩ := c_last y4
    refine wp_bindE _ d1 (wp_some ?_)
    have F : Fr [(6, 1)] I1 (upd4 I1 6 1 0 3 (nI (bnf S))) := Fr.up (by simp)
    refine ⟨⟨fun j hj => ?_, ?_, cRw_n (cR_fr y3 F (by simp)) e4 (fun k hk => ⟨(w1 k hk).1, by show nI _ = nI _; rw [(w1 k hk).2.1], (w1 k hk).2.2⟩), cRw_n d2 rfl (fun k hk => w2 k hk), cRw_n (cR_fr y5 F (by simp)) e5 (fun k hk => ⟨by show nI _ = nI _; rw [(w3 k hk).1], (w3 k hk).2⟩)⟩, F.sub (by simp)⟩
    · rw [u_c (by decide), e2 j hj]; exact y1 j hj
    · rw [u_c (by decide), e3]; exact y2
  · rw [k0]
    refine wp_neg (by decide) (wp_neg (by decide) (wp_neg (by decide) (wp_neg (by decide) ?_)))
    rw [show 5 * 0 + 2 = 2 from rfl, ← e1] at y5
    obtain ⟨d1, d2⟩ := c_last y5
    refine wp_bindE _ d1 (wp_some ?_)
    have F : Fr [(6, 2)] I1 (upd4 I1 6 2 0 3 (nI (bnl S))) := Fr.up (by simp)
    refine ⟨⟨fun j hj => ?_, ?_, cRw_n (cR_fr y3 F (by simp)) e4 (fun k hk => ⟨(w1 k hk).1, by show nI _ = nI _; rw [(w1 k hk).2.1], (w1 k hk).2.2⟩), cRw_n (cR_fr y4 F (by simp)) e5 (fun k hk => w2 k hk), cRw_n d2 rfl (fun k hk => ⟨by show nI _ = nI _; rw [(w3 k hk).1], (w3 k hk).2⟩)⟩, F.sub (by simp)⟩
    · rw [u_c (by decide), e2 j hj]; exact y1 j hj
    · rw [u_c (by decide), e3]; exact y2
/-- what a call owes that cannot throw -/
def Pq (fc : Option (Int32 × Mem)) (fr : Mem → Option (Int32 × Mem)) (P : PMem) : Prop := wp fc (fun y => wp (fr y.2) (fun w => y.1 = w.1 ∧ G w.2 P))
theorem p_undo (h : G I P) : Pq (f_X7_undo I) f_X8_undo P := by
  obtain ⟨l, a, hA, hC, hR⟩ := h
  have hJ5 := hA.1.2.1
  have hna := hA.2.1.2.1
  have ⟨x1, x2, x3, x4⟩ := hC.2.2.1
  have e6 : I 6 3 0 3 = nI (xna (yE a)) := x2.1
  unfold Pq f_X7_undo
  rw [e6, n_0]
  refine wp_ite (fun q => ?_) (fun q => ?_)
  · rw [nI_eq (by omega) (by omega)] at q
    obtain ⟨r1, r2⟩ := r_code hR 0
    refine wp_some ?_
    have e33 : upd4 I 8 0 0 2 0 8 0 0 33 = nI (xna (yE a)) := r1.2.1.2.1
    show wp (f_X8_undo I) _
    unfold f_X8_undo
    refine wp_bnd ?_
    rw [e33, q]
    exact wp_pos rfl (wp_some ⟨rfl, l, a, hA, GC_k hC r2, r1⟩)
  · rw [nI_eq (by omega) (by omega)] at q
    obtain ⟨m, hm⟩ : ∃ m, xna (yE a) = m + 1 := ⟨xna (yE a) - 1, by omega⟩
    unfold f_X0_takeBackLastAct
    rw [show 5 * 0 + 3 = 3 from rfl, e6]
    rw [hm] at x2
    obtain ⟨d1, d2⟩ := c_last x2
    have hu := hA.2.1.2.2.1 m (by omega)
    obtain ⟨t1, t2, t3⟩ := x2.2.2 m (by omega)
    have F1 : Fr [(6, 3)] I (upd4 I 6 3 0 3 (nI m)) := Fr.up (by simp)
    have hb1 : CB (upd4 I 6 3 0 3 (nI m)) 0 (lJ (yL a)) (xh (yE a) (m + 1)) := by
      have : xB (yE a) = xh (yE a) (m + 1) := by unfold xB; rw [hm]
      rw [this] at x1
      obtain ⟨y1, y2, y3, y4, y5⟩ := x1
      exact ⟨by rw [u_c (by decide)]; exact y1, by rw [u_c (by decide)]; exact y2, cR_fr y3 F1 (by simp), cR_fr y4 F1 (by simp), cR_fr y5 F1 (by simp)⟩
    rw [if_neg (by rw [n_0, nI_eq (by omega) (by omega)]; exact q), d1, Option.bind_some]
    refine wp_bind (c_back hJ5 d2 (by omega) hb1 (S := xh (yE a) m) ?_) ?_
    · rw [u_c (show (44 : Nat) ≠ 6 by decide), u_c (show (45 : Nat) ≠ 6 by decide), u_c (show (46 : Nat) ≠ 6 by decide), t1, t2, t3]; exact hu
    · rintro I2 ⟨b2, F2⟩
      refine wp_bnd (wp_some ?_)
      have F3 : Fr [(7, 0)] I2 (upd4 I2 7 0 0 10 0) := Fr.up (by simp)
      have F : Fr ACT I (upd4 I2 7 0 0 10 0) := ((F1.sub (by simp [ACT])).tr (F2.sub (by simp [ACT]))).tr (F3.sub (by simp [ACT]))
      have F12 : Fr [(0, 0), (9, 0), (6, 0), (6, 1), (6, 2), (6, 3)] I I2 := (F1.sub (by simp)).tr (F2.sub (by simp))
      have epop : xB (popE (yE a)) = xh (yE a) m := by show xh (yE a) (xna (yE a) - 1) = _; rw [hm]; rfl
      have hx : BxC (upd4 I2 7 0 0 10 0) 0 (lJ (yL a)) (popE (yE a)) := by
        refine ⟨?_, ?_, ?_, ?_⟩
        · rw [epop]; exact CB_fr b2 F3 (by simp)
        · have := cR_fr (cR_fr d2 F2 (by simp)) F3 (by simp)
          show cRw _ 3 (xna (yE a) - 1) _ _ _
          rw [hm]; exact this
        · exact cR_fr (cR_fr x3 F12 (by simp)) F3 (by simp)
        · rw [F3.g (c := 10) (z := 0) (by simp), F12.g (c := 10) (z := 0) (by simp)]; exact x4
      have hC2 : GC (upd4 I2 7 0 0 10 0) P l (setE a (popE (yE a))) := GC_act hC F (fun f hf => by rw [u_if, if_neg (fun q => hf q.2), F12.g (c := 7) (z := 0) (by simp)]) (Or.inl u_at) hx
      have kc : Kc I (upd4 I2 7 0 0 10 0) := F.kc (by simp [ACT])
      have hR2 := GR_k hR kc
      obtain ⟨r1, r2⟩ := r_code hR2 0
      have e33 : upd4 (upd4 I2 7 0 0 10 0) 8 0 0 2 0 8 0 0 33 = nI (m + 1) := by rw [← hm]; exact r1.2.1.2.1
      show wp (f_X8_undo (upd4 I2 7 0 0 10 0)) _
      unfold f_X8_undo
      refine wp_bnd ?_
      rw [e33]
      refine wp_neg (nI_ne0 (by omega) (by omega)) (wp_bnd ?_)
      rw [nI_p1 (by omega), Nat.add_sub_cancel, u_at, n_45, pk_mul]
      have sz := (hA.2.1.1 m (by omega))
      have F4 : Fr [(8, 0)] (upd4 (upd4 I2 7 0 0 10 0) 8 0 0 2 0) (upd4 (upd4 (upd4 I2 7 0 0 10 0) 8 0 0 2 0) 8 0 0 33 (nI m)) := Fr.up (by simp)
      have pk : ∀ k, k < m + 1 → pkd (upd4 (upd4 (upd4 I2 7 0 0 10 0) 8 0 0 2 0) 8 0 0 33 (nI m)) 65 (45 * k) (lJ (yL a)) (xh (yE a) k) := by
        intro k hk
        have := r1.2.1.2.2.1 k (by omega)
        unfold pkd at this ⊢
        rw [F4.g (c := 65) (z := 0) (by simp)]; exact this
      refine wp_bind (r_unpack (Or.inl rfl) (by show 45 * m + 45 ≤ 1800; omega) hJ5 ⟨sz.2.1, sz.1.2.1, sz.2.2⟩ (pk m (by omega))) ?_
      rintro I5 ⟨F5, f5, rb5⟩
      have e33' : I5 8 0 0 33 = nI m := by rw [f5 33 (by omega)]; exact u_at
      refine wp_some ⟨?_, l, setE a (popE (yE a)), AOK_act hA (popE_ok hA.2.1), GC_k hC2 (r2.tr ((F4.kr (by simp)).tr (F5.kr (by simp)))), ?_⟩
      · show upd4 I2 7 0 0 10 0 6 3 0 3 = I5 8 0 0 33
        rw [e33', u_c (by decide), F2.g (c := 6) (z := 3) (by simp)]; exact u_at
      · have z1 := r1.2.1
        show GR I5 _
        refine GR_act r1 ((F4.sub (by simp [RACT])).tr (F5.sub (by simp [RACT]))) (fun f hf => by rw [f5 f (by omega), u_if, if_neg (by omega)]) ⟨by rw [epop]; exact rb5, ?_, fun k hk => ?_, ?_, ?_⟩
        · show I5 8 0 0 33 = nI (xna (yE a) - 1)
          rw [hm]; exact e33'
        · have hk' : k < xna (yE a) - 1 := hk
          show pkd I5 65 (45 * k) (lJ (yL a)) (xh (yE a) k)
          have := pk k (by omega)
          unfold pkd at this ⊢
          rw [F5.g (c := 65) (z := 0) (by simp)]; exact this
        · have z2 := z1.2.2.2.1
          unfold rSn at z2 ⊢
          rw [f5 34 (by omega), u_if, if_neg (by omega), F5.g (c := 77) (z := 0) (by simp), F5.g (c := 77 + 1) (z := 0) (by simp), F5.g (c := 77 + 2) (z := 0) (by simp), F4.g (c := 77) (z := 0) (by simp), F4.g (c := 77 + 1) (z := 0) (by simp), F4.g (c := 77 + 2) (z := 0) (by simp)]
          exact z2
        · rw [F5.g (c := 59) (z := 0) (by simp), F4.g (c := 59) (z := 0) (by simp)]; exact z1.2.2.2.2
end
