/-! pairs of calls: see, forget, fault -/
def seeE (E : Bx) (c j : Nat) (b : Bool) : Bx := (xh E, xna E, xa1 E, xa2 E, xa3 E, xsn E + 1, (fun k => if k = xsn E then c else xs1 E k), (fun k => if k = xsn E then j else xs2 E k), (fun k => if k = xsn E then b else xs3 E k), xst E)
def forE (E : Bx) : Bx := (xh E, xna E, xa1 E, xa2 E, xa3 E, xsn E - 1, xs1 E, xs2 E, xs3 E, xst E)
theorem seeE_ok {L : Land} {E : Bx} {c j : Nat} {b : Bool} (h : XOK L E) (h8 : xsn E < 8) (hc : c < lC L) (hj : j < lJ L) : XOK L (seeE E c j b) := by
  obtain ⟨h1, h2, h3, h4, h5⟩ := h
  refine ⟨h1, h2, h3, by show xsn E + 1 ≤ 8; omega, fun k hk => ?_⟩
  have hk' : k < xsn E + 1 := hk
  show (if k = xsn E then c else xs1 E k) < lC L ∧ (if k = xsn E then j else xs2 E k) < lJ L
  by_cases e : k = xsn E
  · rw [if_pos e, if_pos e]; exact ⟨hc, hj⟩
  · rw [if_neg e, if_neg e]; exact h5 k (by omega)
theorem forE_ok {L : Land} {E : Bx} (h : XOK L E) : XOK L (forE E) := by
  obtain ⟨h1, h2, h3, h4, h5⟩ := h
  exact ⟨h1, h2, h3, by show xsn E - 1 ≤ 8; omega, fun k hk => h5 k (by have : k < xsn E - 1 := hk; omega)⟩
section
variable {I : Mem} {P : PMem} {l : Nat} {a : Abs} {O : Nat → Int64} {D : Bool} {n : Nat}
theorem CX_seen {I' : Mem} {E' : Bx} (h : BxC I 0 (lJ (yL a)) (yE a)) (F : Fr (Lrow 4) I I') (hB : xB E' = xB (yE a)) (hs : xna E' = xna (yE a) ∧ xa1 E' = xa1 (yE a) ∧ xa2 E' = xa2 (yE a) ∧ xa3 E' = xa3 (yE a) ∧ xst E' = xst (yE a)) (hr : cRw I' 4 (xsn E') (fun k => nI (xs1 E' k)) (fun k => nI (xs2 E' k)) (fun k => bI (xs3 E' k))) : BxC I' 0 (lJ (yL a)) E' := by
  obtain ⟨x1, x2, x3, x4⟩ := h
  obtain ⟨s1, s2, s3, s4, s5⟩ := hs
  obtain ⟨y1, y2, y3, y4, y5⟩ := x1
  refine ⟨?_, ?_, hr, ?_⟩
  · rw [hB]
    exact ⟨by rw [F.g (c := 9) (z := 0) (by simp [Lrow])]; exact y1, by rw [F.g (c := 0) (z := 0) (by simp [Lrow])]; exact y2, cR_fr y3 F (by simp [Lrow]), cR_fr y4 F (by simp [Lrow]), cR_fr y5 F (by simp [Lrow])⟩
  · rw [s1, s2, s3, s4]; exact cR_fr x2 F (by simp [Lrow])
  · rw [s5, F.g (c := 10) (z := 0) (by simp [Lrow])]; exact x4
theorem RX_seen {I' : Mem} {E' : Bx} {S : List (Nat × Nat)} (h : RX I (lJ (yL a)) (yE a)) (F : Fr S I I') (hS : ∀ c, c ∈ [53, 59, 62, 63, 64, 65] → ¬ (c, 0) ∈ S) (f8 : ∀ f, f = 29 ∨ f = 30 ∨ f = 31 ∨ f = 32 ∨ f = 33 → I' 8 0 0 f = I 8 0 0 f) (hB : xB E' = xB (yE a)) (hs : xna E' = xna (yE a) ∧ xh E' = xh (yE a) ∧ xst E' = xst (yE a)) (hr : rSn I' 77 34 E') : RX I' (lJ (yL a)) E' := by
  obtain ⟨x1, x2, x3, x4, x5⟩ := h
  obtain ⟨s1, s2, s3⟩ := hs
  refine ⟨?_, by rw [s1, f8 33 (by omega)]; exact x2, ?_, hr, ?_⟩
  · rw [hB]
    unfold RB rR at x1 ⊢
    rw [F.g (hS 53 (by decide)), F.g (hS 62 (by decide)), F.g (hS 63 (by decide)), F.g (hS 64 (by decide)), f8 29 (by omega), f8 30 (by omega), f8 31 (by omega), f8 32 (by omega)]
    exact x1
  · rw [s1, s2]
    unfold pkd at x3 ⊢
    rw [F.g (hS 65 (by decide))]; exact x3
  · rw [s3, F.g (hS 59 (by decide))]; exact x5
theorem p_fault (h : G I P) : wp (f_X7_fault I) (fun v => wp (f_X8_fault I) (fun w => v = w.1 ∧ G w.2 P)) := by
  obtain ⟨l, a, hA, hC, hR⟩ := h
  obtain ⟨r1, r2⟩ := r_code hR 0
  unfold f_X7_fault f_X8_fault
  refine wp_some (wp_bnd (wp_some ⟨?_, l, a, hA, GC_k hC r2, r1⟩))
  show I 7 0 0 11 = upd4 I 8 0 0 2 0 8 0 0 23
  rw [hC.2.2.2.2.2.2.1]; exact r1.2.2.2.2.2.symm
theorem p_forget (h : G I P) : Pq (f_X7_forget I) f_X8_forget P := by
  obtain ⟨l, a, hA, hC, hR⟩ := h
  have h8 := hA.2.1.2.2.2.1
  have ⟨x1, x2, x3, x4⟩ := hC.2.2.1
  have e6 : I 6 4 0 3 = nI (xsn (yE a)) := x3.1
  unfold Pq f_X7_forget
  rw [e6, n_0]
  refine wp_ite (fun q => ?_) (fun q => ?_)
  · rw [nI_eq (by omega) (by omega)] at q
    obtain ⟨r1, r2⟩ := r_code hR 0
    refine wp_some ?_
    have e34 : upd4 I 8 0 0 2 0 8 0 0 34 = nI (xsn (yE a)) := r1.2.1.2.2.2.1.1
    show wp (f_X8_forget I) _
    unfold f_X8_forget
    refine wp_bnd ?_
    rw [e34, q]
    exact wp_pos rfl (wp_some ⟨rfl, l, a, hA, GC_k hC r2, r1⟩)
  · rw [nI_eq (by omega) (by omega)] at q
    obtain ⟨m, hm⟩ : ∃ m, xsn (yE a) = m + 1 := ⟨xsn (yE a) - 1, by omega⟩
    have x3' : cRw I 4 (xsn (yE a)) (fun k => nI (xs1 (yE a) k)) (fun k => nI (xs2 (yE a) k)) (fun k => bI (xs3 (yE a) k)) := x3
    rw [hm] at x3'
    obtain ⟨d1, d2⟩ := c_last x3'
    refine wp_bindE _ d1 (wp_some ?_)
    have F1 : Fr (Lrow 4) I (upd4 I 6 4 0 3 (nI m)) := Fr.up (by simp [Lrow])
    have em : xsn (forE (yE a)) = m := by show xsn (yE a) - 1 = m; omega
    have hC2 : GC (upd4 I 6 4 0 3 (nI m)) P l (setE a (forE (yE a))) := GC_act hC (F1.sub (by simp [ACT, Lrow])) (fun f hf => by rw [u_c (by decide)]) (Or.inr ⟨by rw [u_c (by decide)], rfl⟩) (CX_seen hC.2.2.1 F1 rfl ⟨rfl, rfl, rfl, rfl, rfl⟩ (by rw [em]; exact d2))
    have kc : Kc I (upd4 I 6 4 0 3 (nI m)) := F1.kc (by simp [Lrow])
    obtain ⟨r1, r2⟩ := r_code (GR_k hR kc) 0
    have e34 : upd4 (upd4 I 6 4 0 3 (nI m)) 8 0 0 2 0 8 0 0 34 = nI (m + 1) := by rw [← hm]; exact r1.2.1.2.2.2.1.1
    show wp (f_X8_forget (upd4 I 6 4 0 3 (nI m))) _
    unfold f_X8_forget
    refine wp_bnd ?_
    rw [e34]
    refine wp_neg (nI_ne0 (by omega) (by omega)) (wp_bnd (wp_some ?_))
    rw [nI_p1 (by omega), Nat.add_sub_cancel]
    have F2 : Fr [(8, 0)] (upd4 (upd4 I 6 4 0 3 (nI m)) 8 0 0 2 0) (upd4 (upd4 (upd4 I 6 4 0 3 (nI m)) 8 0 0 2 0) 8 0 0 34 (nI m)) := Fr.up (by simp)
    refine ⟨?_, l, setE a (forE (yE a)), AOK_act hA (forE_ok hA.2.1), GC_k hC2 (r2.tr (F2.kr (by simp))), ?_⟩
    · show upd4 I 6 4 0 3 (nI m) 6 4 0 3 = upd4 (upd4 (upd4 I 6 4 0 3 (nI m)) 8 0 0 2 0) 8 0 0 34 (nI m) 8 0 0 34
      rw [u_at, u_at]
    · show GR (upd4 (upd4 (upd4 I 6 4 0 3 (nI m)) 8 0 0 2 0) 8 0 0 34 (nI m)) _
      refine GR_act r1 (F2.sub (by simp [RACT])) (fun f hf => by rw [u_if, if_neg (by omega)]) (RX_seen r1.2.1 F2 (by simp) (fun f hf => by rw [u_if, if_neg (by omega)]) rfl ⟨rfl, rfl, rfl⟩ ⟨by rw [u_at, em], fun k hk => ?_⟩)
      have := r1.2.1.2.2.2.1.2 k (by rw [em] at hk; omega)
      rw [u_c (show (77 : Nat) ≠ 8 by decide), u_c (show (77 + 1 : Nat) ≠ 8 by decide), u_c (show (77 + 2 : Nat) ≠ 8 by decide)]
      exact this
theorem p_see (h : G I P) (v1 v2 v3 : Int32) : Pr (f_L_see I P O D n v1 v2 v3) (fun I => f_X8_see I v1 v2 v3) n := by
  obtain ⟨l, a, hA, hC, hR⟩ := h
  have hC6 := hA.1.2.2.1
  have hJ5 := hA.1.2.1
  have h8 := hA.2.1.2.2.2.1
  obtain ⟨hR0, hK0⟩ := r_code hR 0
  have ⟨x1, x2, x3, x4⟩ := hC.2.2.1
  refine L_a hA hC hR ?_
  unfold f_X7_see
  have no : inR v1 (lC (yL a)) = false ∨ inR v2 (lJ (yL a)) = false → wp (f_X8_see I v1 v2 v3) (fun w => w.2 8 0 0 2 = 1 ∧ GR w.2 a ∧ Kr I w.2) := by
    intro q
    unfold f_X8_see
    refine wp_bnd (wp_bindE _ (r_case hA hR0 v1) ?_)
    refine wp_ite (fun _ => r_fail1 hR 1) (fun q1 => wp_bindE _ (r_judge hA hR0 v2) (wp_ite (fun _ => r_fail1 hR 1) (fun q2 => ?_)))
    rcases q with q | q
    · exact absurd (bI_0.mpr q) q1
    · exact absurd (bI_0.mpr q) q2
  refine wp_thb (q_case hA hC v1) (fun b1 => wp_thb (q_judge hA hC v2) (fun b2 => ?_) (fun b2 => Or.inr ⟨rfl, no (by simp [b2])⟩)) (fun b1 => Or.inr ⟨rfl, no (by simp [b1])⟩)
  obtain ⟨c, hc, rfl⟩ := inR_t (by omega) b1
  obtain ⟨j, hj, rfl⟩ := inR_t (by omega) b2
  have r8 : rowsLen 4 = 8 := rfl
  refine wp_bindE _ (c_full x3) ?_
  rw [r8]
  refine wp_ite (fun q => ?_) (fun q => wp_bnd ?_)
  · have q1 : xsn (yE a) < 8 := by
      have := bI_0.mp q
      by_cases e : xsn (yE a) < 8
      · exact e
      · rw [decide_eq_false e] at this; cases this
    have key : ∀ b : Bool, (∀ (I3 : Mem) (Q : Int32 × Mem → Prop) (s1 : Int32), wp (f_X8_see_79 I3 (bI b) s1) Q → wp (if v3 = 0 then f_X8_see_79 I3 0 s1 else f_X8_see_79 I3 1 s1) Q) → wp (f_X7_see_56 P I (bI b) (nI j) (nI c)) (Qa I P l a (fun I => f_X8_see I (nI c) (nI j) v3)) := by
      intro b hb
      unfold f_X7_see_56
      refine wp_bind (c_addlt x3 (by rw [show 5 * 0 + 4 = 4 from rfl, r8]; exact q1) (nI c) (nI j) (bI b)) ?_
      rintro I1 ⟨c1, F1⟩
      have hC1 : GC I1 P l (setE a (seeE (yE a) c j b)) := by
        refine GC_act hC (F1.sub (by simp [ACT, Lrow])) (fun f hf => by rw [F1.g (c := 7) (z := 0) (by simp [Lrow])]) (Or.inr ⟨by rw [F1.g (c := 7) (z := 0) (by simp [Lrow])], rfl⟩) (CX_seen hC.2.2.1 F1 rfl ⟨rfl, rfl, rfl, rfl, rfl⟩ (cRw_cong c1 (fun i _ => ?_)))
        show (if i = xsn (yE a) then nI c else nI (xs1 (yE a) i)) = nI (if i = xsn (yE a) then c else xs1 (yE a) i) ∧ (if i = xsn (yE a) then nI j else nI (xs2 (yE a) i)) = nI (if i = xsn (yE a) then j else xs2 (yE a) i) ∧ (if i = xsn (yE a) then bI b else bI (xs3 (yE a) i)) = bI (if i = xsn (yE a) then b else xs3 (yE a) i)
        by_cases e : i = xsn (yE a)
        · rw [if_pos e, if_pos e, if_pos e, if_pos e, if_pos e, if_pos e]; exact ⟨rfl, rfl, rfl⟩
        · rw [if_neg e, if_neg e, if_neg e, if_neg e, if_neg e, if_neg e]; exact ⟨rfl, rfl, rfl⟩
      refine wp_some (Or.inl ⟨_, I1, _, rfl, seeE_ok hA.2.1 q1 hc hj, hC1, F1.kc (by simp [Lrow]), fun hR1 => ?_⟩)
      have e6 : I1 6 4 0 3 = nI (xsn (yE a) + 1) := c1.1
      rw [e6]
      obtain ⟨r1, r2⟩ := r_code hR1 0
      have e34 : upd4 I1 8 0 0 2 0 8 0 0 34 = nI (xsn (yE a)) := r1.2.1.2.2.2.1.1
      unfold f_X8_see
      refine wp_bnd (wp_bindE _ (r_case hA r1 _) ?_)
      rw [b1]
      refine wp_neg (by decide) (wp_bindE _ (r_judge hA r1 _) ?_)
      rw [b2, e34, show (8 : Int32) = nI 8 from rfl]
      refine wp_neg (by decide) (wp_neg (by rw [nI_eq (by omega) (by omega)]; omega) (wp_gd (inb_n (by omega)) (wp_bnd ?_)))
      rw [nI_clamp (by omega), u_c (show (8 : Nat) ≠ 77 by decide), e34]
      refine wp_gd (inb_n (by omega)) (wp_bnd ?_)
      rw [nI_clamp (by omega), u_c (show (8 : Nat) ≠ 78 by decide), u_c (show (8 : Nat) ≠ 77 by decide), e34]
      refine hb _ _ _ ?_
      unfold f_X8_see_79
      refine wp_gd (inb_n (by omega)) (wp_bnd (wp_bnd (wp_some ?_)))
      rw [nI_clamp (by omega), u_c (show (8 : Nat) ≠ 79 by decide), u_c (show (8 : Nat) ≠ 78 by decide), u_c (show (8 : Nat) ≠ 77 by decide), e34, nI_1]
      have F2 : Fr [(8, 0), (77, 0), (78, 0), (79, 0)] (upd4 I1 8 0 0 2 0) (upd4 (upd4 (upd4 (upd4 (upd4 I1 8 0 0 2 0) 77 0 0 (xsn (yE a)) (nI c)) 78 0 0 (xsn (yE a)) (nI j)) 79 0 0 (xsn (yE a)) (bI b)) 8 0 0 34 (nI (xsn (yE a) + 1))) := (((Fr.up (by simp)).tr (Fr.up (by simp))).tr (Fr.up (by simp))).tr (Fr.up (by simp))
      have uf : ∀ f, f ≠ 34 → upd4 (upd4 (upd4 (upd4 (upd4 I1 8 0 0 2 0) 77 0 0 (xsn (yE a)) (nI c)) 78 0 0 (xsn (yE a)) (nI j)) 79 0 0 (xsn (yE a)) (bI b)) 8 0 0 34 (nI (xsn (yE a) + 1)) 8 0 0 f = upd4 I1 8 0 0 2 0 8 0 0 f := fun f hf => by rw [u_if, if_neg (fun q => hf q.2), u_c (show (8 : Nat) ≠ 79 by decide), u_c (show (8 : Nat) ≠ 78 by decide), u_c (show (8 : Nat) ≠ 77 by decide)]
      have e34' : upd4 (upd4 (upd4 (upd4 (upd4 I1 8 0 0 2 0) 77 0 0 (xsn (yE a)) (nI c)) 78 0 0 (xsn (yE a)) (nI j)) 79 0 0 (xsn (yE a)) (bI b)) 8 0 0 34 (nI (xsn (yE a) + 1)) 8 0 0 34 = nI (xsn (yE a) + 1) := u_at
      refine ⟨e34', (uf 2 (by omega)).trans (code0 I1), ?_, r2.tr (F2.kr (by simp))⟩
      show GR (upd4 (upd4 (upd4 (upd4 (upd4 I1 8 0 0 2 0) 77 0 0 (xsn (yE a)) (nI c)) 78 0 0 (xsn (yE a)) (nI j)) 79 0 0 (xsn (yE a)) (bI b)) 8 0 0 34 (nI (xsn (yE a) + 1))) _
      refine GR_act r1 (F2.sub (by simp [RACT])) (fun f hf => uf f (by omega)) (RX_seen r1.2.1 F2 (by simp) (fun f hf => uf f (by omega)) rfl ⟨rfl, rfl, rfl⟩ ⟨u_at, fun k hk => ?_⟩)
      have hk' : k < xsn (yE a) + 1 := hk
      have ew := r1.2.1.2.2.2.1.2 k
      show _ = nI (if k = xsn (yE a) then c else xs1 (yE a) k) ∧ _ = nI (if k = xsn (yE a) then j else xs2 (yE a) k) ∧ _ = bI (if k = xsn (yE a) then b else xs3 (yE a) k)
      rw [u_c (show (77 : Nat) ≠ 8 by decide), u_c (show (77 : Nat) ≠ 79 by decide), u_c (show (77 : Nat) ≠ 78 by decide), u_if, u_c (show (77 + 1 : Nat) ≠ 8 by decide), u_c (show (77 + 1 : Nat) ≠ 79 by decide), show (77 + 1 : Nat) = 78 from rfl, u_if, u_c (show (78 : Nat) ≠ 77 by decide), u_c (show (77 + 2 : Nat) ≠ 8 by decide), show (77 + 2 : Nat) = 79 from rfl, u_if, u_c (show (79 : Nat) ≠ 78 by decide), u_c (show (79 : Nat) ≠ 77 by decide)]
      by_cases e : k = xsn (yE a)
      · simp [e]
      · simp only [e, and_false, if_false]
        exact ew (by omega)
    refine wp_ite (fun q3 => key false (fun I3 Q s1 hw => wp_pos q3 hw)) (fun q3 => key true (fun I3 Q s1 hw => wp_neg q3 hw))
  · have q1 : xsn (yE a) = 8 := by
      by_cases e : xsn (yE a) < 8
      · rw [decide_eq_true e] at q; exact absurd rfl q
      · omega
    obtain ⟨c1, c2⟩ := c_inc hA hC (i := 2) (by omega)
    refine wp_some (Or.inl ⟨-1, _, incE (yE a) 2, rfl, XOK_inc hA.2.1 2, c1, c2, fun hR1 => ?_⟩)
    obtain ⟨r1, r2⟩ := r_code hR1 0
    obtain ⟨r3, r4⟩ := r_inc hA r1 (i := 2) (by omega)
    have e34 : upd4 (upd4 I 10 0 0 2 (I 10 0 0 2 + 1)) 8 0 0 2 0 8 0 0 34 = nI (xsn (yE a)) := r1.2.1.2.2.2.1.1
    unfold f_X8_see
    refine wp_bnd (wp_bindE _ (r_case hA r1 _) ?_)
    rw [b1]
    refine wp_neg (by decide) (wp_bindE _ (r_judge hA r1 _) ?_)
    rw [b2, e34, q1]
    refine wp_neg (by decide) (wp_pos rfl ?_)
    unfold f_X8_refuse
    refine wp_bind (R := fun y => y.1 = -1 ∧ y.2 = upd4 (upd4 (upd4 I 10 0 0 2 (I 10 0 0 2 + 1)) 8 0 0 2 0) 59 0 0 2 (upd4 (upd4 I 10 0 0 2 (I 10 0 0 2 + 1)) 8 0 0 2 0 59 0 0 2 + 1)) (wp_gd (by decide) (wp_bnd (wp_some ⟨rfl, rfl⟩))) ?_
    rintro y ⟨y1, y2⟩
    refine wp_some ⟨y1, ?_, ?_, ?_⟩
    · show y.2 8 0 0 2 = 0
      rw [y2, u_c (show (8 : Nat) ≠ 59 by decide)]; exact code0 _
    · show GR y.2 _
      rw [y2]; exact r3
    · show Kr _ y.2
      rw [y2]; exact r2.tr r4
end
