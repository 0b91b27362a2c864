/-! both readers over one text -/
def PX : Type := (Mem) × (Mem) × (Nat) × (Nat) × (Nat → Nat)
def pxI (x : PX) : Mem := x.1
def pxR (x : PX) : Mem := x.2.1
def pxd (x : PX) : Nat := x.2.2.1
def pxn (x : PX) : Nat := x.2.2.2.1
def pxt (x : PX) : Nat → Nat := x.2.2.2.2
def Dft : Type := (Nat) × (Int32) × (Nat) × (Int32) × (Nat) × (Nat) × (Nat → Nat) × (Nat → Nat → Nat) × (Nat → Nat → Int32) × (Nat → Nat → Int32) × (Nat → Int32) × (Nat → Int32) × (Nat → Int32)
def dT (x : Dft) : Nat := x.1
def dinn (x : Dft) : Int32 := x.2.1
def dnr (x : Dft) : Nat := x.2.2.1
def dgg (x : Dft) : Int32 := x.2.2.2.1
def dJ (x : Dft) : Nat := x.2.2.2.2.1
def dC (x : Dft) : Nat := x.2.2.2.2.2.1
def dns (x : Dft) : Nat → Nat := x.2.2.2.2.2.2.1
def drt (x : Dft) : Nat → Nat → Nat := x.2.2.2.2.2.2.2.1
def drm (x : Dft) : Nat → Nat → Int32 := x.2.2.2.2.2.2.2.2.1
def dpf (x : Dft) : Nat → Nat → Int32 := x.2.2.2.2.2.2.2.2.2.1
def dkd (x : Dft) : Nat → Int32 := x.2.2.2.2.2.2.2.2.2.2.1
def dhs (x : Dft) : Nat → Int32 := x.2.2.2.2.2.2.2.2.2.2.2.1
def dst (x : Dft) : Nat → Int32 := x.2.2.2.2.2.2.2.2.2.2.2.2
/-- what the class's reader may change; what the reference's may -/
def tCg (c : Nat) : Prop := c = 3 ∨ c = 4 ∨ c = 28 ∨ c = 33 ∨ c = 34 ∨ c = 35 ∨ c = 36 ∨ c = 38 ∨ c = 40 ∨ c = 41
def tRg (c i : Nat) : Prop := c = 8 ∧ 15 ≤ i ∧ i ≤ 22 ∨ c = 50 ∧ 7 ≤ i ∨ c = 51 ∧ 81 ≤ i ∨ (c = 52 ∨ c = 53 ∨ c = 54 ∨ c = 55) ∧ 5 ≤ i ∨ c = 56 ∧ 35 ≤ i ∨ c = 57 ∧ 54 ≤ i ∨ c = 58 ∧ 600 ≤ i
def KC (X : PX) (I : Mem) : Prop := ∀ c z, I c z = pxI X c z ∨ c = 5 ∨ (z = pxd X ∧ tCg c)
def KR (X : PX) (I : Mem) : Prop := (∀ c, c ≠ 8 → (c < 50 ∨ 58 < c) → I c = pxR X c) ∧ ∀ c i, I c 0 0 i = pxR X c 0 0 i ∨ tRg c i
def POK (X : PX) : Prop := pxd X < 2 ∧ pxn X ≤ 600 ∧ ∀ i, pxt X i < 256
def CDf (X : PX) (I : Mem) (D : Dft) : Prop :=
  (I 3 (pxd X) 0 0 = nI (dT D) ∧ I 3 (pxd X) 0 1 = dinn D ∧ I 3 (pxd X) 0 2 = nI (dnr D) ∧ I 3 (pxd X) 0 3 = dgg D ∧ I 3 (pxd X) 0 7 = nI (dJ D) ∧ I 3 (pxd X) 0 13 = nI (dC D)) ∧
  (∀ a b, a < 9 → b < 9 → I 28 (pxd X) a b = drm D a b) ∧ (∀ j, j < dJ D → I 33 (pxd X) 0 j = dkd D j ∧ I 34 (pxd X) 0 j = dst D j ∧ I 35 (pxd X) 0 j = dhs D j ∧ I 36 (pxd X) 0 j = nI (dns D j)) ∧
  (∀ j, j < dJ D → ∀ i, i < dns D j → I 38 (pxd X) j i = nI (drt D j i)) ∧ ∀ c t, c < 6 → t < 9 → I 40 (pxd X) c t = dpf D c t
def RDf (I : Mem) (D : Dft) : Prop :=
  (I 50 0 0 7 = nI (dT D) ∧ I 50 0 0 8 = dinn D ∧ I 50 0 0 9 = nI (dnr D) ∧ I 50 0 0 10 = (if dgg D = 0 then 10 else dgg D) ∧ I 50 0 0 11 = nI (dJ D) ∧ I 50 0 0 12 = nI (dC D)) ∧
  (∀ a b, a < 9 → b < 9 → I 51 0 0 (81 + (9 * a + b)) = drm D a b) ∧ (∀ j, j < dJ D → I 52 0 0 (5 + j) = dkd D j ∧ I 53 0 0 (5 + j) = dst D j ∧ I 54 0 0 (5 + j) = dhs D j ∧ I 55 0 0 (5 + j) = nI (dns D j)) ∧
  (∀ j, j < dJ D → ∀ i, i < dns D j → I 56 0 0 (7 * (5 + j) + i) = nI (drt D j i)) ∧ ∀ c t, c < dC D → t < 9 → I 57 0 0 (9 * (6 + c) + t) = dpf D c t
def CWf (X : PX) (I : Mem) (cd : Nat → Nat) (len : Nat) : Prop := I 4 (pxd X) 0 1 = nI len ∧ ∀ k, k < len → I 41 (pxd X) 0 k = nI (cd k)
def RWf (I : Mem) (cd : Nat → Nat) (len : Nat) : Prop := I 50 0 0 13 = nI len ∧ ∀ k, k < len → I 58 0 0 (600 + k) = rs (cd k)
def DOK (D : Dft) : Prop :=
  (dT D ≤ 9 ∧ dnr D ≤ 14 ∧ dJ D ≤ 5 ∧ dC D ≤ 6) ∧ (∀ j, j < dJ D → 1 ≤ dns D j ∧ dns D j ≤ 7) ∧ (∀ j, j < dJ D → ∀ i, i < dns D j → drt D j i < dT D) ∧
  (∀ j, j < dJ D → ∀ i, i + 1 < dns D j → 1 ≤ (drm D (drt D j i) (drt D j (i + 1))).toInt) ∧ (∀ a b, a < 9 → b < 9 → drm D a b = drm D b a ∧ 0 ≤ (drm D a b).toInt ∧ (drm D a b).toInt ≤ 9) ∧
  (∀ j, j < dJ D → 0 ≤ (dst D j).toInt ∧ (dst D j).toInt ≤ 60) ∧ (dgg D = 0 ∨ 1 ≤ (dgg D).toInt ∧ (dgg D).toInt ≤ 40)
def vk (cd : Nat → Nat) (len : Nat) : Prop :=
  len ≤ 600 ∧ ∀ k, k < len → cd k ≤ 10013 ∧ hg cd k ≤ 40 ∧ (cd k ≤ 10004 → hg cd k < 40) ∧ (cd k = 10007 → 1 ≤ hg cd k) ∧ (10004 < cd k → cd k ≠ 10007 → 2 ≤ hg cd k)
def Al (X : PX) (I R : Mem) (b e k : Nat) (D : Dft) (cd : Nat → Nat) (len : Nat) : Prop :=
  (KC X I ∧ KR X R) ∧ (tpC (pxn X) (pxt X) I ∧ tpR (pxn X) (pxt X) R) ∧ (tkC I b e k ∧ tkR (pxt X) R b e k ∧ tkO (pxn X) (pxt X) b e k) ∧ (CDf X I D ∧ RDf R D ∧ DOK D) ∧ (CWf X I cd len ∧ RWf R cd len ∧ vk cd len)
def Dd (X : PX) (I R : Mem) : Prop :=
  (KC X I ∧ KR X R) ∧ ∃ v p, v ≠ 0 ∧ (I 5 0 0 0 = v ∧ I 5 0 0 1 = p ∧ I 5 0 0 5 = 4 ∧ ∃ m, m ≤ 600 ∧ I 4 (pxd X) 0 1 = nI m) ∧ R 8 0 0 21 = v ∧ R 8 0 0 22 = p
section
variable {X : PX} {I I' R R' : Mem} {b e k : Nat} {D : Dft} {cd : Nat → Nat} {len : Nat}
theorem KC_up {c r i : Nat} {v : Int32} (h : KC X I) (hc : tCg c) : KC X (upd4 I c (pxd X) r i v) := fun c' z => by
  by_cases q : c' = c ∧ z = pxd X
  · obtain ⟨rfl, rfl⟩ := q; exact Or.inr (Or.inr ⟨rfl, hc⟩)
  · rcases h c' z with h | h
    · refine Or.inl (funext fun r' => funext fun i' => ?_)
      rw [u_ne (fun y => q ⟨y.1, y.2.1⟩), h]
    · exact Or.inr h
theorem KC_up5 {f : Nat} {v : Int32} (h : KC X I) : KC X (upd4 I 5 0 0 f v) := fun c' z => by
  by_cases q : c' = 5
  · exact Or.inr (Or.inl q)
  · rw [u_c q]; exact h c' z
theorem KC_e (h : KC X I) (E : E5 I I') : KC X I' := fun c z => by
  by_cases q : c = 5
  · exact Or.inr (Or.inl q)
  · rw [E.1 c q]; exact h c z
theorem KR_up {c i : Nat} {v : Int32} (h : KR X R) (hc : tRg c i) : KR X (upd4 R c 0 0 i v) := by
  refine ⟨fun c' h1 h2 => ?_, fun c' i' => ?_⟩
  · have : c' ≠ c := by unfold tRg at hc; omega
    rw [u_c this]; exact h.1 c' h1 h2
  · by_cases q : c' = c ∧ i' = i
    · obtain ⟨rfl, rfl⟩ := q; exact Or.inr hc
    · rw [u_ne (fun y => q ⟨y.1, y.2.2.2⟩)]; exact h.2 c' i'
theorem KR_e (h : KR X R) (E : E8 R R') : KR X R' := by
  refine ⟨fun c h1 h2 => ?_, fun c i => ?_⟩
  · rw [E.1 c h1]; exact h.1 c h1 h2
  · by_cases q : c = 8
    · subst q
      by_cases y : fS i
      · right; unfold fS at y; unfold tRg; omega
      · rw [E.2 i y]; exact h.2 8 i
    · rw [E.1 c q]; exact h.2 c i
theorem CDf_e (h : CDf X I D) (E : ∀ c, tCg c → c ≠ 4 → c ≠ 41 → I' c (pxd X) = I c (pxd X)) : CDf X I' D := by
  unfold CDf at *
  rw [E 3 (by unfold tCg; omega) (by omega) (by omega), E 28 (by unfold tCg; omega) (by omega) (by omega), E 33 (by unfold tCg; omega) (by omega) (by omega), E 34 (by unfold tCg; omega) (by omega) (by omega), E 35 (by unfold tCg; omega) (by omega) (by omega), E 36 (by unfold tCg; omega) (by omega) (by omega), E 38 (by unfold tCg; omega) (by omega) (by omega), E 40 (by unfold tCg; omega) (by omega) (by omega)]
  exact h
theorem RDf_e (h : RDf R D) (E0 : ∀ i, i ≠ 13 → R' 50 0 0 i = R 50 0 0 i) (E : ∀ c, 51 ≤ c → c < 58 → R' c = R c) : RDf R' D := by
  unfold RDf at *
  rw [E0 7 (by omega), E0 8 (by omega), E0 9 (by omega), E0 10 (by omega), E0 11 (by omega), E0 12 (by omega), E 51 (by omega) (by omega), E 52 (by omega) (by omega), E 53 (by omega) (by omega), E 54 (by omega) (by omega), E 55 (by omega) (by omega), E 56 (by omega) (by omega), E 57 (by omega) (by omega)]
  exact h
theorem CWf_e (h : CWf X I cd len) (E4 : I' 4 (pxd X) = I 4 (pxd X)) (E41 : I' 41 (pxd X) = I 41 (pxd X)) : CWf X I' cd len := by
  unfold CWf at *; rw [E4, E41]; exact h
theorem RWf_e (h : RWf R cd len) (E1 : R' 50 0 0 13 = R 50 0 0 13) (E2 : R' 58 = R 58) : RWf R' cd len := by
  unfold RWf at *; rw [E1, E2]; exact h
/-- the next token in both -/
theorem L_adv (hX : POK X) (A : Al X I R b e k D cd len) : W2 (f_X5_advance I) (f_X8_stepOn R) (fun I' R' => ∃ b' e' k', Al X I' R' b' e' k' D cd len ∧ e ≤ b') := by
  obtain ⟨⟨kc, kr⟩, ⟨p1, p2⟩, ⟨t1, t2, t3⟩, ⟨c1, c2, c3⟩, c4, c5, c6⟩ := A
  have q := tkO_b t3
  refine w2_sp (c_adv hX.2.2 hX.2.1 q.2.1 p1 t1.1 t1.2.2.2.2) (r_step hX.2.2 hX.2.1 q.2.1 p2 t2.2.2.2.1) ?_
  rintro I' R' ⟨a1, a2, a3, a4⟩ ⟨g1, g2, g3, g4, g5, g6⟩
  have B := tB_b (n := pxn X) (tb := pxt X) q.2.1
  have hE := tE_b (n := pxn X) (tb := pxt X) B.2
  refine ⟨tB (pxn X) (pxt X) e, tE (pxn X) (pxt X) (tB (pxn X) (pxt X) e), tK (pxn X) (pxt X) (tB (pxn X) (pxt X) e), ⟨⟨KC_e kc a1, KR_e kr g1⟩, ⟨tpC_e p1 a1, tpR_e p2 g1⟩, ⟨⟨?_, ?_, a2, a3, a4⟩, ⟨?_, g2, g3, g4, g5, g6⟩, B.2, hE.2.1, rfl, rfl⟩, ⟨CDf_e c1 (fun c hc _ _ => ?_), RDf_e c2 (fun i _ => ?_) (fun c hc _ => ?_), c3⟩, CWf_e c4 ?_ ?_, RWf_e c5 ?_ ?_, c6⟩, B.1⟩
  · rw [a1.2 0 (by omega)]; exact t1.1
  · rw [a1.2 1 (by omega)]; exact t1.2.1
  · rw [g1.2 21 (by unfold fS; omega)]; exact t2.1
  · rw [a1.1 c (by unfold tCg at hc; omega)]
  · rw [g1.1 50 (by omega)]
  · rw [g1.1 c (by omega)]
  · rw [a1.1 4 (by omega)]
  · rw [a1.1 41 (by omega)]
  · rw [g1.1 50 (by omega)]
  · rw [g1.1 58 (by omega)]
theorem A_b (A : Al X I R b e k D cd len) : b ≤ pxn X ∧ e ≤ pxn X ∧ b ≤ e ∧ k ≤ 4 ∧ (k = 0 ↔ pxn X ≤ b) ∧ (k ≠ 0 → b < e) := tkO_b A.2.2.1.2.2
theorem L_word (hX : POK X) (A : Al X I R b e k D cd len) {z : Nat} (hz : z < 25) : f_X5_isWord I z = some (bI (decide (k = 1) && wI (pxt X) b e z)) ∧ f_X8_is R z = some (bI (decide (k = 1) && wI (pxt X) b e z)) :=
  ⟨c_word hX.2.2 hX.2.1 A.2.1.1 A.2.2.1.1 A.2.2.1.2.2 hz, r_is hX.2.2 hX.2.1 A.2.1.2 A.2.2.1.2.1 A.2.2.1.2.2 hz⟩
theorem L_sign (hX : POK X) (A : Al X I R b e k D cd len) {c : Nat} (hc : c < 128) : f_X5_isSign I (nI c) = some (bI (sI (pxt X) k b c)) ∧ f_X8_isMarked R (nI c) = some (bI (sI (pxt X) k b c)) :=
  ⟨c_sign hX.2.2 hX.2.1 A.2.1.1 A.2.2.1.1 A.2.2.1.2.2 hc, r_marked hX.2.2 hX.2.1 A.2.1.2 A.2.2.1.2.1 A.2.2.1.2.2 hc⟩
/-! a fault -/
def rfC (I : Mem) (v : Int32) : Mem := upd4 (upd4 (upd4 I 5 0 0 0 v) 5 0 0 1 (upd4 I 5 0 0 0 v 5 0 0 6)) 5 0 0 5 4
def rfR (R : Mem) (v : Int32) : Mem := upd4 (upd4 R 8 0 0 21 v) 8 0 0 22 (upd4 R 8 0 0 21 v 8 0 0 19)
theorem L_ref (A : Al X I R b e k D cd len) {v : Int32} (hv : v ≠ 0) : f_X5_refuse I v = some (rfC I v) ∧ f_X8_wrong R v = some (rfR R v) ∧ Dd X (rfC I v) (rfR R v) := by
  obtain ⟨⟨kc, kr⟩, ⟨p1, p2⟩, ⟨t1, t2, t3⟩, ⟨c1, c2, c3⟩, c4, c5, c6⟩ := A
  refine ⟨if_pos t1.1, if_pos t2.1, ⟨KC_up5 (KC_up5 (KC_up5 kc)), KR_up (KR_up kr (by unfold tRg; omega)) (by unfold tRg; omega)⟩, v, nI b, hv, ⟨?_, ?_, ?_, len, c6.1, ?_⟩, ?_, ?_⟩
  · unfold rfC; rw [u5, if_neg (by omega), u5, if_neg (by omega), u5, if_pos rfl]
  · unfold rfC; rw [u5, if_neg (by omega), u5, if_pos rfl, u5, if_neg (by omega)]; exact t1.2.2.2.1
  · unfold rfC; rw [u5, if_pos rfl]
  · unfold rfC; rw [u_c (by omega), u_c (by omega), u_c (by omega)]; exact c4.1
  · unfold rfR; rw [u5, if_neg (by omega), u5, if_pos rfl]
  · unfold rfR; rw [u5, if_pos rfl, u5, if_neg (by omega)]; exact t2.2.2.1
theorem Dd_c (h : Dd X I R) : I 5 0 0 0 ≠ 0 := by obtain ⟨_, v, p, hv, ⟨a, _⟩, _⟩ := h; rw [a]; exact hv
theorem Dd_4 (h : Dd X I R) : I 5 0 0 5 = 4 := by obtain ⟨_, v, p, hv, ⟨_, _, a, _⟩, _⟩ := h; exact a
theorem Dd_r (h : Dd X I R) : R 8 0 0 21 ≠ 0 := by obtain ⟨_, v, p, hv, _, a, _⟩ := h; rw [a]; exact hv
theorem Al_r (A : Al X I R b e k D cd len) : R 8 0 0 21 = 0 := A.2.2.1.2.1.1
theorem Al_c (A : Al X I R b e k D cd len) : I 5 0 0 0 = 0 := A.2.2.1.1.1
theorem Al_kc (A : Al X I R b e k D cd len) : I 5 0 0 5 = nI k := A.2.2.1.1.2.2.1
theorem Al_kr (A : Al X I R b e k D cd len) : R 8 0 0 17 = nI k := A.2.2.1.2.1.2.1
theorem Dd_cup (h : Dd X I R) {c r i : Nat} {v : Int32} (hc : tCg c) (h4 : c ≠ 4) : Dd X (upd4 I c (pxd X) r i v) R := by
  obtain ⟨⟨kc, kr⟩, v', p, hv, ⟨a1, a2, a3, m, a4, a5⟩, a6⟩ := h
  have n5 : (5 : Nat) ≠ c := by unfold tCg at hc; omega
  exact ⟨⟨KC_up kc hc, kr⟩, v', p, hv, ⟨by rw [u_c n5]; exact a1, by rw [u_c n5]; exact a2, by rw [u_c n5]; exact a3, m, a4, by rw [u_c (Ne.symm h4)]; exact a5⟩, a6⟩
theorem Dd_rup (h : Dd X I R) {c i : Nat} {v : Int32} (hc : tRg c i) (h8 : c ≠ 8) : Dd X I (upd4 R c 0 0 i v) := by
  obtain ⟨⟨kc, kr⟩, v', p, hv, a1, a2, a3⟩ := h
  exact ⟨⟨kc, KR_up kr hc⟩, v', p, hv, a1, by rw [u_c (Ne.symm h8)]; exact a2, by rw [u_c (Ne.symm h8)]; exact a3⟩
theorem Dd_add (h : Dd X I R) (op : Int32) : wp (f_X4_add (pxd X) I op) (fun I' => Dd X I' R) := by
  obtain ⟨⟨kc, kr⟩, v', p, hv, ⟨a1, a2, a3, m, a4, a5⟩, a6⟩ := h
  unfold f_X4_add
  rw [a5]
  refine wp_ite (fun _ => wp_some ⟨⟨kc, kr⟩, v', p, hv, ⟨a1, a2, a3, m, a4, a5⟩, a6⟩) (fun q => ?_)
  have hm : m < 600 := by
    by_cases y : m < 600
    · exact y
    · exact absurd (nI_le (a := 600) (by omega) (by omega)) q
  refine wp_gd (inb_n hm) (wp_bnd (wp_bnd (wp_some ⟨⟨KC_up (KC_up kc (by unfold tCg; omega)) (by unfold tCg; omega), kr⟩, v', p, hv, ⟨?_, ?_, ?_, m + 1, hm, ?_⟩, a6⟩)))
  · rw [u_c (by omega), u_c (by omega)]; exact a1
  · rw [u_c (by omega), u_c (by omega)]; exact a2
  · rw [u_c (by omega), u_c (by omega)]; exact a3
  · rw [u_at, u_c (by omega), a5]; exact nI_1 m
end
