/-! sending out and loading: the class's court -/
def dys (rm : Nat → Nat → Int32) (ro : Nat → Nat) (d0 : Int32) : Nat → Int32
  | 0 => d0
  | i + 1 => dys rm ro d0 i + rm (ro i) (ro (i + 1))
def roB (rt : Nat → Nat) (n : Nat) (b : Bool) (i : Nat) : Nat := if b then rt (n - 1 - i) else rt i
/-- the land's judges, routes and roads -/
def lA (I : Mem) (l J : Nat) (ns : Nat → Nat) (rt : Nat → Nat → Nat) (rm : Nat → Nat → Int32) (T : Nat) : Prop :=
  I 3 l 0 7 = nI J ∧ J ≤ 5 ∧ (∀ j, j < J → I 36 l 0 j = nI (ns j) ∧ 1 ≤ ns j ∧ ns j ≤ 7) ∧ (∀ j, j < J → ∀ i, i < ns j → I 38 l j i = nI (rt j i) ∧ rt j i < T) ∧ T ≤ 9 ∧
  ∀ a, a < T → ∀ b, b < T → I 28 l a b = rm a b
theorem lA_fr {I I' : Mem} {S : List (Nat × Nat)} {l J : Nat} {ns : Nat → Nat} {rt : Nat → Nat → Nat} {rm : Nat → Nat → Int32} {T : Nat} (h : lA I l J ns rt rm T) (F : Fr S I I') (hs' : ∀ c, c ∈ [3, 28, 36, 38] → ¬ (c, l) ∈ S) : lA I' l J ns rt rm T := by
  unfold lA at *
  rw [F.g (hs' 3 (by decide)), F.g (hs' 28 (by decide)), F.g (hs' 36 (by decide)), F.g (hs' 38 (by decide))]
  exact h
section
variable {P : PMem} {z l J : Nat} {ns : Nat → Nat} {rt : Nat → Nat → Nat} {rm : Nat → Nat → Int32} {T : Nat}
theorem c_send_17 (hP : P 1 z 0 0 = l) (hl : l < 2) {j : Nat} (hj : j < J) (b : Bool) (d0 : Int32) : ∀ m fu k I v, k + m = ns j → m < fu → lA I l J ns rt rm T →
    (∀ i, i < k → I 12 z j i = nI (roB (rt j) (ns j) b i) ∧ I 14 z j i = dys rm (roB (rt j) (ns j) b) d0 i) →
    (v = if k = 0 then d0 else dys rm (roB (rt j) (ns j) b) d0 (k - 1)) →
    wp (f_X1_sendOut_17 P z fu I (nI j) (bI b) (nI (ns j)) v (nI k)) (fun I' => Fr [(12, z), (14, z)] I I' ∧
      (∀ i, i < ns j → I' 12 z j i = nI (roB (rt j) (ns j) b i) ∧ I' 14 z j i = dys rm (roB (rt j) (ns j) b) d0 i) ∧
      ∀ r i, r ≠ j → I' 12 z r i = I 12 z r i ∧ I' 14 z r i = I 14 z r i) := by
  intro m
  induction m with
  | zero =>
    intro fu k I v hk hf h hh hv
    obtain ⟨g, rfl⟩ := Nat.exists_eq_succ_of_ne_zero (by omega : fu ≠ 0)
    obtain ⟨hJ, hJ5, hns, hrt, hT, hrm⟩ := h
    have hn7 := (hns j hj).2.2
    have hk' : k = ns j := by omega
    unfold f_X1_sendOut_17
    refine wp_pos (by rw [nI_leI (by omega) (by omega)]; omega) (wp_some ⟨Fr.rfl, ?_, fun _ _ _ => ⟨rfl, rfl⟩⟩)
    rw [hk'] at hh; exact hh
  | succ m ih =>
    intro fu k I v hk hf h hh hv
    obtain ⟨g, rfl⟩ := Nat.exists_eq_succ_of_ne_zero (by omega : fu ≠ 0)
    have h0 := h
    obtain ⟨hJ, hJ5, hns, hrt, hT, hrm⟩ := h
    obtain ⟨hn, hn1, hn7⟩ := hns j hj
    have ro_lt : ∀ i, i < ns j → roB (rt j) (ns j) b i < T := by
      intro i hi
      unfold roB
      split
      · exact (hrt j hj _ (by omega)).2
      · exact (hrt j hj _ hi).2
    have h84 : ∀ x2, x2 = dys rm (roB (rt j) (ns j) b) d0 k → wp (f_X1_sendOut_84 (f_X1_sendOut_17 P z g) P z I (nI j) (bI b) (nI (ns j)) x2 (nI k) (nI (roB (rt j) (ns j) b k))) (fun I' => Fr [(12, z), (14, z)] I I' ∧
      (∀ i, i < ns j → I' 12 z j i = nI (roB (rt j) (ns j) b i) ∧ I' 14 z j i = dys rm (roB (rt j) (ns j) b) d0 i) ∧
      ∀ r i, r ≠ j → I' 12 z r i = I 12 z r i ∧ I' 14 z r i = I 14 z r i) := by
      intro x2 hx2
      unfold f_X1_sendOut_84
      refine wp_gd (inb_n (by omega)) (wp_gd (inb_n (by omega)) (wp_bnd (wp_bnd ?_)))
      rw [nI_clamp (by omega), nI_clamp (by omega), nI_1, hx2]
      have F : Fr [(12, z), (14, z)] I (upd4 (upd4 I 12 z j k (nI (roB (rt j) (ns j) b k))) 14 z j k (dys rm (roB (rt j) (ns j) b) d0 k)) := (Fr.up (by simp)).tr (Fr.up (by simp))
      refine wp_mono (ih g (k + 1) _ _ (by omega) (by omega) (lA_fr h0 F (by simp)) ?_ (by rw [if_neg (by omega)]; rfl)) ?_
      · intro i hi
        rw [u_c (show (12 : Nat) ≠ 14 by decide), u_if, u_if, u_c (show (14 : Nat) ≠ 12 by decide)]
        by_cases e : i = k
        · rw [if_pos ⟨rfl, e⟩, if_pos ⟨rfl, e⟩, e]; exact ⟨rfl, rfl⟩
        · rw [if_neg (fun q => e q.2), if_neg (fun q => e q.2)]; exact hh i (by omega)
      · rintro I' ⟨F', a, c⟩
        refine ⟨F.tr F', a, fun r i hr => ?_⟩
        obtain ⟨c1, c2⟩ := c r i hr
        rw [c1, c2, u_c (show (12 : Nat) ≠ 14 by decide), u_if, u_if, u_c (show (14 : Nat) ≠ 12 by decide), if_neg (fun q => hr q.1), if_neg (fun q => hr q.1)]
        exact ⟨rfl, rfl⟩
    have h49 : ∀ s, s = nI (if b then ns j - 1 - k else k) → wp (f_X1_sendOut_49 (f_X1_sendOut_17 P z g) P z I (nI j) (bI b) (nI (ns j)) v (nI k) s l j) (fun I' => Fr [(12, z), (14, z)] I I' ∧
      (∀ i, i < ns j → I' 12 z j i = nI (roB (rt j) (ns j) b i) ∧ I' 14 z j i = dys rm (roB (rt j) (ns j) b) d0 i) ∧
      ∀ r i, r ≠ j → I' 12 z r i = I 12 z r i ∧ I' 14 z r i = I 14 z r i) := by
      intro s hs
      rw [hs]
      have hlt : (if b = true then ns j - 1 - k else k) < ns j := by split <;> omega
      have e38 : I 38 l j (if b = true then ns j - 1 - k else k) = nI (roB (rt j) (ns j) b k) := by
        rw [(hrt j hj _ hlt).1]
        unfold roB
        split <;> rfl
      unfold f_X1_sendOut_49
      refine wp_gd (inb_n (by omega)) (wp_bnd ?_)
      rw [nI_clamp (by omega), e38]
      refine wp_ite (fun q => h84 v ?_) (fun q => ?_)
      · rw [n_0, nI_leI (by omega) (by omega)] at q
        rw [hv, if_pos (by omega), show k = 0 by omega]; rfl
      · rw [n_0, nI_leI (by omega) (by omega)] at q
        rw [hP, nI_p1 (by omega)]
        have r1 := ro_lt (k - 1) (by omega)
        have r2 := ro_lt k (by omega)
        refine wp_gd (dlt hl) (wp_gd (inb_n (by omega)) (wp_gd (inb_n (by omega)) ?_))
        rw [nI_clamp (by omega), nI_clamp (by omega), (hh (k - 1) (by omega)).1]
        refine wp_gd (inb_n (by omega)) (wp_gd (inb_n (by omega)) (wp_bnd (h84 _ ?_)))
        rw [nI_clamp (by omega), nI_clamp (by omega), hrm _ r1 _ r2, hv, if_neg (by omega)]
        conv => rhs; rw [show k = (k - 1) + 1 by omega, dys]
        rw [show k - 1 + 1 = k by omega]
    unfold f_X1_sendOut_17
    rw [hP]
    refine wp_neg (by rw [nI_leI (by omega) (by omega)]; omega) (wp_gd (dlt hl) (wp_gd (inb_n (by omega)) ?_))
    rw [nI_clamp (by omega)]
    refine wp_ite (fun q => h49 _ ?_) (fun q => h49 _ ?_)
    · rw [bI_0.mp q]; rfl
    · have : b = true := by
        cases b
        · exact absurd (bI_0.mpr rfl) q
        · rfl
      rw [this, if_pos rfl, nI_p1 hn1, pk_sub (by omega)]
theorem c_sendOut {I : Mem} (hP : P 1 z 0 0 = l) (hl : l < 2) {j : Nat} (hj : j < J) (b : Bool) (d0 : Int32) (h : lA I l J ns rt rm T) :
    wp (f_X1_sendOut P z I (nI j) d0 (bI b)) (fun I' => Fr [(12, z), (14, z)] I I' ∧
      (∀ i, i < ns j → I' 12 z j i = nI (roB (rt j) (ns j) b i) ∧ I' 14 z j i = dys rm (roB (rt j) (ns j) b) d0 i) ∧
      ∀ r i, r ≠ j → I' 12 z r i = I 12 z r i ∧ I' 14 z r i = I 14 z r i) := by
  have ⟨hJ, hJ5, hns, hrt, hT, hrm⟩ := h
  obtain ⟨hn, hn1, hn7⟩ := hns j hj
  unfold f_X1_sendOut
  rw [hP]
  refine wp_gd (dlt hl) (wp_gd (inb_n (by omega)) (wp_bnd ?_))
  rw [nI_clamp (by omega), hn]
  exact c_send_17 hP hl hj b d0 (ns j) FU 0 I d0 (by omega) (by unfold FU; omega) h (fun i hi => absurd hi (Nat.not_lt_zero i)) rfl
/-- stops of a plain round -/
theorem c_load_17 {z1 : Nat} {kd d0 : Nat → Int32} (hP : P 1 z 0 0 = l) (hP1 : P 1 z 0 1 = 0) (hl : l < 2) : ∀ m fu k I w, k + m = J → m < fu → lA I l J ns rt rm T → (∀ j, j < J → I 33 l 0 j = kd j) → (∀ j, j < J → I 9 0 0 j = d0 j) → I 1 z 0 2 = w →
    (∀ j, j < k → ∀ i, i < ns j → I 12 z j i = nI (rt j i) ∧ I 14 z j i = dys rm (rt j) (d0 j) i) →
    wp (f_X1_load_17 z l z1 fu I P (nI k)) (fun r => r.2 = P ∧ Fr [(1, z), (12, z), (14, z)] I r.1 ∧ r.1 1 z 0 2 = bs (fun j => decide (kd j = 1)) k m w ∧
      ∀ j, j < J → ∀ i, i < ns j → r.1 12 z j i = nI (rt j i) ∧ r.1 14 z j i = dys rm (rt j) (d0 j) i) := by
  intro m
  induction m with
  | zero =>
    intro fu k I w hk hf h h33 h9 hw hh
    obtain ⟨g, rfl⟩ := Nat.exists_eq_succ_of_ne_zero (by omega : fu ≠ 0)
    have ⟨hJ, hJ5, hns, hrt, hT, hrm⟩ := h
    have hk' : k = J := by omega
    subst hk'
    unfold f_X1_load_17
    rw [hP, hJ]
    exact wp_gd (dlt hl) (wp_pos (by rw [nI_leI (by omega) (by omega)]; omega) (wp_some ⟨rfl, Fr.rfl, hw, hh⟩))
  | succ m ih =>
    intro fu k I w hk hf h h33 h9 hw hh
    obtain ⟨g, rfl⟩ := Nat.exists_eq_succ_of_ne_zero (by omega : fu ≠ 0)
    have ⟨hJ, hJ5, hns, hrt, hT, hrm⟩ := h
    unfold f_X1_load_17
    rw [hP, hP1, hJ]
    refine wp_gd (dlt hl) (wp_neg (by rw [nI_leI (by omega) (by omega)]; omega) (wp_gd (by decide) (wp_gd (inb_n (by omega)) ?_)))
    rw [nI_clamp (by omega), h9 k (by omega), nI_1]
    refine wp_bind (c_sendOut hP hl (by omega : k < J) false (d0 k) h) ?_
    rintro I2 ⟨F2, a2, b2⟩
    have a2' : ∀ i, i < ns k → I2 12 z k i = nI (rt k i) ∧ I2 14 z k i = dys rm (rt k) (d0 k) i := a2
    have hh2 : ∀ j, j < k + 1 → ∀ i, i < ns j → I2 12 z j i = nI (rt j i) ∧ I2 14 z j i = dys rm (rt j) (d0 j) i := by
      intro j hj i hi
      by_cases e : j = k
      · rw [e]; rw [e] at hi; exact a2' i hi
      · rw [(b2 j i e).1, (b2 j i e).2]; exact hh j (by omega) i hi
    have e33 : I2 33 = I 33 := F2.gc (by simp)
    have e9 : I2 9 = I 9 := F2.gc (by simp)
    have e1 : I2 1 = I 1 := F2.gc (by simp)
    rw [e33, h33 k (by omega)]
    refine wp_ite (fun q => wp_bnd ?_) (fun q => ?_)
    · rw [e1, hw]
      have F3 : Fr [(1, z), (12, z), (14, z)] I2 (upd4 I2 1 z 0 2 (w ||| jshl 1 (nI k))) := Fr.up (by simp)
      refine wp_mono (ih g (k + 1) _ (w ||| jshl 1 (nI k)) (by omega) (by omega) (lA_fr (lA_fr h F2 (by simp)) F3 (by simp)) (by rw [u_c (by decide), e33]; exact h33) (by rw [u_c (by decide), e9]; exact h9) u_at ?_) ?_
      · intro j hj i hi
        rw [u_c (show (12 : Nat) ≠ 1 by decide), u_c (show (14 : Nat) ≠ 1 by decide)]; exact hh2 j hj i hi
      · rintro r ⟨r1, r2, r3, r4⟩
        refine ⟨r1, ((F2.sub (by simp)).tr F3).tr r2, ?_, r4⟩
        rw [r3, bs, if_pos (by simp [q])]
    · refine wp_mono (ih g (k + 1) _ w (by omega) (by omega) (lA_fr h F2 (by simp)) (by rw [e33]; exact h33) (by rw [e9]; exact h9) (by rw [e1]; exact hw) hh2) ?_
      rintro r ⟨r1, r2, r3, r4⟩
      refine ⟨r1, (F2.sub (by simp)).tr r2, ?_, r4⟩
      rw [r3, bs, if_neg (by simp [q])]
end
def ldP (P : PMem) (z l : Nat) : PMem := updP (updP P 1 z 0 0 l) 1 z 0 1 0
theorem c_load {P : PMem} {z l J : Nat} {ns : Nat → Nat} {rt : Nat → Nat → Nat} {rm : Nat → Nat → Int32} {T : Nat} {kd d0 : Nat → Int32} {I : Mem} (hl : l < 2) (h : lA I l J ns rt rm T) (h33 : ∀ j, j < J → I 33 l 0 j = kd j) (h9 : ∀ j, j < J → I 9 0 0 j = d0 j) :
    wp (f_X1_load z l 0 I P) (fun r => r.2 = ldP P z l ∧ Fr [(1, z), (12, z), (14, z)] I r.1 ∧ r.1 1 z 0 2 = bs (fun j => decide (kd j = 1)) 0 J 0 ∧
      cJ r.1 r.2 z J ns rt (fun j => dys rm (rt j) (d0 j))) := by
  unfold f_X1_load
  refine wp_bnd (wp_bnd (wp_bnd ?_))
  have F : Fr [(1, z), (12, z), (14, z)] I (upd4 I 1 z 0 2 0) := Fr.up (by simp)
  have hJ5 := h.2.1
  have p0 : ldP P z l 1 z 0 0 = l := by simp [ldP, updP]
  have p1 : ldP P z l 1 z 0 1 = 0 := by simp [ldP, updP]
  refine wp_mono (c_load_17 (P := ldP P z l) (kd := kd) (d0 := d0) p0 p1 hl J FU 0 _ 0 (by omega) (by unfold FU; omega) (lA_fr h F (by simp)) (by rw [u_c (by decide)]; exact h33) (by rw [u_c (by decide)]; exact h9) u_at (fun j hj => absurd hj (Nat.not_lt_zero j))) ?_
  rintro r ⟨r1, r2, r3, r4⟩
  refine ⟨r1, F.tr r2, r3, ?_⟩
  have h2 := lA_fr (lA_fr h F (by simp)) r2 (by simp)
  obtain ⟨hJ, hJ5, hns, hrt, hT, hrm⟩ := h2
  unfold cJ
  rw [r1, p0]
  refine ⟨hl, hJ, hJ5, fun j hj => ⟨(hns j hj).1, (hns j hj).2.2⟩, fun j hj i hi => ⟨(r4 j hj i hi).1, (r4 j hj i hi).2, ?_⟩⟩
  have := (hrt j hj i hi).2
  omega
