/-! the class: a land, a bench, a settled court -/
def CL (I : Mem) (l : Nat) (L : Land) : Prop :=
  lA I l (lJ L) (lns L) (lrt L) (lrm L) (lT L) ∧ I 3 l 0 0 = nI (lT L) ∧ I 3 l 0 13 = nI (lC L) ∧ (∀ c, c < lC L → ∀ t, t < 9 → I 40 l c t = lpf L c t) ∧
  (∀ j, j < lJ L → I 33 l 0 j = lkd L j ∧ I 35 l 0 j = lhs L j) ∧ I 4 l 0 1 = nI (llen L) ∧ (∀ k, k < llen L → I 41 l 0 k = nI (lcd L k)) ∧
  (∀ a b, a < lT L → b < lT L → I 30 l a b = lrd L a b ∧ I 32 l a b = lnw L a b) ∧ lgg L = (if I 3 l 0 3 = 0 then 10 else I 3 l 0 3) ∧ I 3 l 0 2 = nI (lnr L)
def CB (I : Mem) (b J : Nat) (B : Ben) : Prop :=
  (∀ j, j < J → I 9 b 0 j = bd0 B j) ∧ I 0 b 0 1 = binns B ∧ cRw I (5 * b) (bn B) (bw1 B) (fun k => nI (bwt B k)) (bw3 B) ∧ cRw I (5 * b + 1) (bnf B) (bf1 B) (bf2 B) (bf3 B) ∧
  cRw I (5 * b + 2) (bnl B) (fun k => nI (bgt B k)) (bg2 B) (bg3 B)
theorem CL_fr {I I' : Mem} {S : List (Nat × Nat)} {l : Nat} {L : Land} (h : CL I l L) (F : Fr S I I') (hs' : ∀ c, c ∈ [3, 4, 28, 30, 32, 33, 35, 36, 38, 40, 41] → ¬ (c, l) ∈ S) : CL I' l L := by
  unfold CL lA at *
  rw [F.g (hs' 3 (by decide)), F.g (hs' 4 (by decide)), F.g (hs' 28 (by decide)), F.g (hs' 30 (by decide)), F.g (hs' 32 (by decide)), F.g (hs' 33 (by decide)), F.g (hs' 35 (by decide)), F.g (hs' 36 (by decide)), F.g (hs' 38 (by decide)), F.g (hs' 40 (by decide)), F.g (hs' 41 (by decide))]
  exact h
theorem CB_fr {I I' : Mem} {S : List (Nat × Nat)} {b J : Nat} {B : Ben} (h : CB I b J B) (F : Fr S I I') (hs' : ∀ c, c ∈ [0, 6, 9, 44, 45, 46] → ∀ z, ¬ (c, z) ∈ S) : CB I' b J B := by
  unfold CB cRw at *
  rw [F.gc (hs' 0 (by decide)), F.gc (hs' 6 (by decide)), F.gc (hs' 9 (by decide)), F.gc (hs' 44 (by decide)), F.gc (hs' 45 (by decide)), F.gc (hs' 46 (by decide))]
  exact h
/-- a court that has heard, and what it holds -/
def heard (I : Mem) (z : Nat) (L : Land) (B : Ben) (tw : Nat → Nat → Nat) (dy : Nat → Nat → Int32) : Prop :=
  hS I z (lC L) (lJ L) (qH L B tw dy) tw dy (qgv L B tw dy) (lns L) ∧ ∀ c, c < lC L → I 21 z 0 c = bs (qrc L B tw dy c) 0 (lJ L) 0
abbrev qvS (I : Mem) (z : Nat) (L : Land) (B : Ben) (tw : Nat → Nat → Nat) (dy : Nat → Nat → Int32) (mt : Nat → Nat → Int32) : Prop :=
  vS I z (lC L) (lJ L) (qtl L B tw dy) (qsd L B tw dy) (qst L B tw dy) (qgv L B tw dy) (qrc L B tw dy) mt
section
variable {I : Mem} {P : PMem} {z l : Nat} {L : Land} {B : Ben} {tw : Nat → Nat → Nat} {dy : Nat → Nat → Int32}
theorem heard_vS {mt : Nat → Nat → Int32} (h : heard I z L B tw dy) (hm : ∀ a b, a < lJ L → b < lJ L → a ≠ b → I 23 z a b = mt a b) : qvS I z L B tw dy mt := by
  refine ⟨fun c hc j hj => ?_, h.2, hm⟩
  obtain ⟨a, b, d⟩ := h.1 c hc j hj
  refine ⟨a, b, d.trans ?_⟩
  unfold sgA qtl
  by_cases e : ff (qH L B tw dy c j) 0 (lns L j) < lns L j
  · rw [if_pos e, decide_eq_true e]; rfl
  · rw [if_neg e, decide_eq_false e]; rfl
theorem heard_fr {I' : Mem} {S : List (Nat × Nat)} (h : heard I z L B tw dy) (F : Fr S I I') (hs' : ∀ c, c ∈ [16, 18, 20, 21] → ¬ (c, z) ∈ S) : heard I' z L B tw dy := by
  refine ⟨hS_fr h.1 F (fun c hc => hs' c (by simp at hc ⊢; omega)), ?_⟩
  rw [F.g (hs' 21 (by decide))]; exact h.2
theorem CL_cH (hL : LOK L) (hC : CL I l L) (hB : CB I 0 (lJ L) B) (hJ : cJ I P z (lJ L) (lns L) tw dy) (hP : P 1 z 0 0 = l) (hP1 : P 1 z 0 1 = 0) :
    cH I P z (lJ L) (lns L) tw dy (lC L) (lpf L) (lkd L) (lhs L) (lcd L) (llen L) (bnf B) (bf1 B) (bf2 B) (bf3 B) := by
  obtain ⟨c1, c2, c3, c4, c5, c6, c7, c8, c9⟩ := hC
  obtain ⟨b1, b2, b3, b4, b5⟩ := hB
  refine ⟨hJ, hP1, ?_, ?_, ?_, b4⟩
  · unfold cC; rw [hP]; exact ⟨c3, hL.2.2.1, c4⟩
  · unfold cKd; rw [hP]; exact c5
  · unfold cW; rw [hP]; exact ⟨c6, c7, hL.2.2.2.2.2.2.2.1⟩
theorem CL_cNW (hL : LOK L) (hBo : BOK L B) (hC : CL I l L) (hB : CB I 0 (lJ L) B) (hP : P 1 z 0 0 = l) : cNW I P z (lT L) (lnw L) (bn B) (bw1 B) (bwt B) (bw3 B) := by
  refine ⟨⟨hL.1, ?_⟩, hB.2.2.1, fun k hk => (hBo.2.2.2.2.2 k hk).1⟩
  rw [hP]
  exact fun a ha b hb => (hC.2.2.2.2.2.2.2.1 a b ha hb).2
theorem CL_cD (hL : LOK L) (hC : CL I l L) (hP : P 1 z 0 0 = l) : cD I P z (lT L) (lrd L) := by
  refine ⟨hL.1, ?_⟩
  rw [hP]
  exact fun a ha b hb => (hC.2.2.2.2.2.2.2.1 a b ha hb).1
theorem q_hear (hL : LOK L) (hBo : BOK L B) (hS : SOK L tw dy) (hC : CL I l L) (hB : CB I 0 (lJ L) B) (hJ : cJ I P z (lJ L) (lns L) tw dy) (hP : P 1 z 0 0 = l) (hP1 : P 1 z 0 1 = 0) :
    wp (f_X1_hearAll P z I) (fun I' => Fr (LH z l) I I' ∧ heard I' z L B tw dy) := by
  refine wp_mono (c_hearAll hS.1 hS.2 (CL_cH hL hC hB hJ hP hP1) (CL_cNW hL hBo hC hB hP)) ?_
  rintro I' ⟨F, a, b⟩
  rw [hP] at F
  refine ⟨F, a, fun c hc => ?_⟩
  rw [b c hc]
  have : rch (Hp tw dy (lpf L) (bnf B) (bf1 B) (bf2 B) (bf3 B)) (lnw L) (lJ L) (lns L) tw dy (bn B) (bw1 B) (bwt B) (bw3 B) c = qrc L B tw dy c := funext fun j => q_rch c j
  rw [this]
theorem q_meet (hL : LOK L) (hBo : BOK L B) (hS : SOK L tw dy) (hC : CL I l L) (hB : CB I 0 (lJ L) B) (hJ : cJ I P z (lJ L) (lns L) tw dy) (hP : P 1 z 0 0 = l) (hP1 : P 1 z 0 1 = 0) (inns : Int32) :
    wp (f_X1_meetAll P z I inns) (fun I' => Fr [(23, z)] I I' ∧ ∀ a b, a < lJ L → b < lJ L → a ≠ b → I' 23 z a b = qmt L B tw dy inns a b) :=
  c_meetAll inns hS.1 hP1 hS.2 (fun k hk => ⟨(hBo.2.2.2.1 k hk).1, (hBo.2.2.2.1 k hk).2.1, (hBo.2.2.2.1 k hk).2.2.1⟩) hJ (CL_cD hL hC hP) hB.2.2.2.2
theorem q_decide (hL : LOK L) (hC : CL I l L) (hJ : cJ I P z (lJ L) (lns L) tw dy) (hP : P 1 z 0 0 = l) {mt : Nat → Nat → Int32} (hv : qvS I z L B tw dy mt) {df : Int32} (hdf : I 1 z 0 2 = df) :
    wp (f_X1_decideAll P z I) (fun I' => Fr [(24, z)] I I' ∧ ∀ c, c < lC L → I' 24 z 0 c = (trv (lJ L) (qtl L B tw dy) (qsd L B tw dy) (qst L B tw dy) (qgv L B tw dy) (qrc L B tw dy) mt 0 df c).1) :=
  c_decideAll hL.2.2.1 hJ hv (by rw [hP]; exact hC.2.2.1) hdf
def LSt (z l : Nat) : List (Nat × Nat) := [(16, z), (18, z), (20, z), (21, z), (23, z), (24, z), (25, z), (42, l), (43, l)]
theorem q_settle (hL : LOK L) (hBo : BOK L B) (hS : SOK L tw dy) (hC : CL I l L) (hB : CB I 0 (lJ L) B) (hJ : cJ I P z (lJ L) (lns L) tw dy) (hP : P 1 z 0 0 = l) (hP1 : P 1 z 0 1 = 0) {df : Int32} (hdf : I 1 z 0 2 = df) :
    wp (f_X1_settle P z I) (fun I' => Fr (LSt z l) I I' ∧ qvS I' z L B tw dy (qmt L B tw dy (binns B)) ∧ ∀ c, c < lC L → I' 24 z 0 c = (qtr L B tw dy (binns B) 0 df c).1) := by
  unfold f_X1_settle
  refine wp_bind (q_hear hL hBo hS hC hB hJ hP hP1) ?_
  rintro I1 ⟨F1, h1⟩
  have hC1 : CL I1 l L := CL_fr hC F1 (by simp [LH])
  have hB1 : CB I1 0 (lJ L) B := CB_fr hB F1 (by simp [LH])
  have hJ1 := cJ_fr hJ F1 (by simp [LH])
  rw [hP1]
  refine wp_gd (by decide) ?_
  refine wp_bind (q_meet hL hBo hS hC1 hB1 hJ1 hP hP1 _) ?_
  rintro I2 ⟨F2, m2⟩
  have hC2 : CL I2 l L := CL_fr hC1 F2 (by simp)
  have hB2 : CB I2 0 (lJ L) B := CB_fr hB1 F2 (by simp)
  have hJ2 := cJ_fr hJ1 F2 (by simp)
  have ein : I1 0 0 0 1 = binns B := hB1.2.1
  rw [ein] at m2
  have hv := heard_vS (heard_fr h1 F2 (by simp)) m2
  refine wp_bind (q_decide hL hC2 hJ2 hP hv (df := df) ?_) ?_
  · rw [F2.g (c := 1) (z := z) (by simp), F1.g (c := 1) (z := z) (by simp [LH])]; exact hdf
  · rintro I3 ⟨F3, t3⟩
    refine wp_some ⟨((F1.sub (by simp [LH, LSt])).tr (F2.sub (by simp [LSt]))).tr (F3.sub (by simp [LSt])), vS_fr hv F3 (by simp), t3⟩
end
