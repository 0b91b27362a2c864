/-! the reference: its land, its bench, a telling -/
def LdR (I : Mem) (L : Land) : Prop :=
  I 50 0 0 4 = nI (lJ L) ∧ (∀ j, j < lJ L → I 55 0 0 j = nI (lns L j)) ∧ (∀ j, j < lJ L → ∀ i, i < lns L j → I 56 0 0 (7 * j + i) = nI (lrt L j i)) ∧
  (∀ a b, a < lT L → b < lT L → I 51 0 0 (9 * a + b) = lrm L a b) ∧ I 50 0 0 0 = nI (lT L) ∧ I 50 0 0 5 = nI (lC L) ∧ (∀ c, c < lC L → ∀ t, t < 9 → I 57 0 0 (9 * c + t) = lpf L c t) ∧
  (∀ j, j < lJ L → I 52 0 0 j = lkd L j ∧ I 54 0 0 j = lhs L j) ∧ I 50 0 0 6 = nI (llen L) ∧ (∀ k, k < llen L → I 58 0 0 k = rs (lcd L k)) ∧
  (∀ a b, a < lT L → b < lT L → I 61 0 0 (9 * a + b) = nv (lrd L a b)) ∧ I 50 0 0 3 = lgg L ∧ I 50 0 0 2 = nI (lnr L)
def RB (I : Mem) (J : Nat) (B : Ben) : Prop :=
  (∀ j, j < J → I 53 0 0 j = bd0 B j) ∧ I 8 0 0 29 = binns B ∧ rR I 30 62 (bn B) (bw1 B) (fun k => nI (bwt B k)) (bw3 B) ∧ rR I 31 63 (bnf B) (bf1 B) (bf2 B) (bf3 B) ∧
  rR I 32 64 (bnl B) (fun k => nI (bgt B k)) (bg2 B) (bg3 B)
theorem RL_fr {I I' : Mem} {S : List (Nat × Nat)} {L : Land} (h : LdR I L) (F : Fr S I I') (hs' : ∀ c, c ∈ [50, 51, 52, 54, 55, 56, 57, 58, 61] → ¬ (c, 0) ∈ S) : LdR I' L := by
  unfold LdR at *
  rw [F.g (hs' 50 (by decide)), F.g (hs' 51 (by decide)), F.g (hs' 52 (by decide)), F.g (hs' 54 (by decide)), F.g (hs' 55 (by decide)), F.g (hs' 56 (by decide)), F.g (hs' 57 (by decide)), F.g (hs' 58 (by decide)), F.g (hs' 61 (by decide))]
  exact h
/-- fields of the reference itself that a telling leaves alone -/
def K8 (I I' : Mem) : Prop := ∀ f, f < 40 ∨ 43 < f → f ≠ 2 → I' 8 0 0 f = I 8 0 0 f
theorem K8.rfl {I : Mem} : K8 I I := fun _ _ _ => _root_.rfl
theorem K8.tr {I I' I'' : Mem} (h : K8 I I') (h2 : K8 I' I'') : K8 I I'' := fun f a b => (h2 f a b).trans (h f a b)
theorem Fr.k8 {S : List (Nat × Nat)} {I I' : Mem} (F : Fr S I I') (h : ¬ (8, 0) ∈ S) : K8 I I' := fun f _ _ => by rw [F.g h]
theorem RB_fr {I I' : Mem} {S : List (Nat × Nat)} {J : Nat} {B : Ben} (h : RB I J B) (F : Fr S I I') (hk : K8 I I') (hs' : ∀ c, c ∈ [53, 62, 63, 64] → ¬ (c, 0) ∈ S) : RB I' J B := by
  unfold RB rR at *
  rw [F.g (hs' 53 (by decide)), F.g (hs' 62 (by decide)), F.g (hs' 63 (by decide)), F.g (hs' 64 (by decide)), hk 29 (by omega) (by omega), hk 30 (by omega) (by omega), hk 31 (by omega) (by omega), hk 32 (by omega) (by omega)]
  exact h
section
variable {L : Land} {B : Ben}
def bwf (bw : Int32) (j : Nat) : Bool := decide (nI j = bw)
theorem r_ts_21 (hL : LOK L) {bw : Int32} {d0 : Nat → Int32} {j : Nat} (hj : j < lJ L) {k2 : Mem → Int32 → Option Mem} {Q : Mem → Prop} : ∀ m fu k I v, k + m = lns L j → m < fu → LdR I L → I 8 0 0 40 = bw →
    (∀ i, i < k → I 68 0 0 (7 * j + i) = nI (twB L (bwf bw) j i) ∧ I 69 0 0 (7 * j + i) = dyB L (bwf bw) d0 j i) →
    (v = if k = 0 then d0 j else dyB L (bwf bw) d0 j (k - 1)) →
    (∀ I', Fr [(68, 0), (69, 0)] I I' → (∀ i, i < lns L j → I' 68 0 0 (7 * j + i) = nI (twB L (bwf bw) j i) ∧ I' 69 0 0 (7 * j + i) = dyB L (bwf bw) d0 j i) →
      (∀ x, x < 7 * j → I' 68 0 0 x = I 68 0 0 x ∧ I' 69 0 0 x = I 69 0 0 x) → wp (k2 I' (nI (j + 1))) Q) →
    wp (f_X8_tellStops_21 k2 fu I (nI j) v (nI k)) Q := by
  obtain ⟨hT9, hJ5, hC6, hns, hrt, hrm, _⟩ := hL
  obtain ⟨hn1, hn7⟩ := hns j hj
  intro m
  induction m with
  | zero =>
    intro fu k I v hk hf h h40 hh hv hK
    obtain ⟨g, rfl⟩ := Nat.exists_eq_succ_of_ne_zero (by omega : fu ≠ 0)
    have hn := h.2.1 j hj
    have hk' : k = lns L j := by omega
    unfold f_X8_tellStops_21
    refine wp_gd (inb_n (by omega)) ?_
    rw [nI_clamp (by omega), hn, nI_1]
    refine wp_pos (by rw [nI_leI (by omega) (by omega)]; omega) (hK I Fr.rfl ?_ (fun _ _ => ⟨rfl, rfl⟩))
    rw [hk'] at hh; exact hh
  | succ m ih =>
    intro fu k I v hk hf h h40 hh hv hK
    obtain ⟨g, rfl⟩ := Nat.exists_eq_succ_of_ne_zero (by omega : fu ≠ 0)
    have hn := h.2.1 j hj
    have ro_lt : ∀ i, i < lns L j → twB L (bwf bw) j i < lT L := by
      intro i hi
      unfold twB roB
      split
      · exact hrt j hj _ (by omega)
      · exact hrt j hj _ hi
    have h95 : ∀ x2, x2 = dyB L (bwf bw) d0 j k → wp (f_X8_tellStops_95 (f_X8_tellStops_21 k2 g) I (nI j) x2 (nI k) (nI (twB L (bwf bw) j k))) Q := by
      intro x2 hx2
      unfold f_X8_tellStops_95
      rw [n_7, idx_n]
      refine wp_gd (inb_n (by omega)) (wp_bnd (wp_bnd ?_))
      rw [nI_clamp (by omega), nI_1, hx2]
      have F : Fr [(68, 0), (69, 0)] I (upd4 (upd4 I 68 0 0 (7 * j + k) (nI (twB L (bwf bw) j k))) 69 0 0 (7 * j + k) (dyB L (bwf bw) d0 j k)) := (Fr.up (by simp)).tr (Fr.up (by simp))
      refine ih g (k + 1) _ _ (by omega) (by omega) (RL_fr h F (by simp)) (by rw [F.g (c := 8) (z := 0) (by simp)]; exact h40) ?_ (by rw [if_neg (by omega)]; rfl) ?_
      · intro i hi
        rw [u_c (show (68 : Nat) ≠ 69 by decide), u_if, u_if, u_c (show (69 : Nat) ≠ 68 by decide)]
        by_cases e : i = k
        · rw [if_pos ⟨rfl, by omega⟩, if_pos ⟨rfl, by omega⟩, e]; exact ⟨rfl, rfl⟩
        · rw [if_neg (fun q => e (by omega)), if_neg (fun q => e (by omega))]; exact hh i (by omega)
      · intro I' F' a b
        refine hK I' (F.tr F') a (fun x hx => ?_)
        obtain ⟨c1, c2⟩ := b x hx
        rw [c1, c2, u_c (show (68 : Nat) ≠ 69 by decide), u_if, u_if, u_c (show (69 : Nat) ≠ 68 by decide), if_neg (fun q => by omega), if_neg (fun q => by omega)]
        exact ⟨rfl, rfl⟩
    have h61 : ∀ s, s = nI (if bwf bw j = true then lns L j - 1 - k else k) → wp (f_X8_tellStops_61 (f_X8_tellStops_21 k2 g) I (nI j) v (nI k) s (nI (7 * j))) Q := by
      intro s hs
      rw [hs]
      have hlt : (if bwf bw j = true then lns L j - 1 - k else k) < lns L j := by split <;> omega
      have e56 : I 56 0 0 (7 * j + (if bwf bw j = true then lns L j - 1 - k else k)) = nI (twB L (bwf bw) j k) := by
        rw [h.2.2.1 j hj _ hlt]
        unfold twB roB
        split <;> rfl
      unfold f_X8_tellStops_61
      rw [nI_add]
      refine wp_gd (inb_n (by omega)) (wp_bnd ?_)
      rw [nI_clamp (by omega), e56]
      refine wp_ite (fun q => h95 v ?_) (fun q => ?_)
      · rw [n_0, nI_leI (by omega) (by omega)] at q
        rw [hv, if_pos (by omega), show k = 0 by omega]; rfl
      · rw [n_0, nI_leI (by omega) (by omega)] at q
        rw [n_7, idx_n, nI_p1 (by omega)]
        have r1 := ro_lt (k - 1) (by omega)
        have r2 := ro_lt k (by omega)
        refine wp_gd (inb_n (by omega)) ?_
        rw [nI_clamp (by omega), show 7 * j + k - 1 = 7 * j + (k - 1) by omega, (hh (k - 1) (by omega)).1]
        unfold f_X8_couple
        rw [Option.bind_some, n_9, idx_n]
        refine wp_gd (inb_n (by omega)) (wp_bnd (h95 _ ?_))
        rw [nI_clamp (by omega), h.2.2.2.1 _ _ r1 r2, hv, if_neg (by omega)]
        unfold dyB
        conv => rhs; rw [show k = (k - 1) + 1 by omega, dys]
        rw [show k - 1 + 1 = k by omega]
    unfold f_X8_tellStops_21
    refine wp_gd (inb_n (by omega)) ?_
    rw [nI_clamp (by omega), hn, h40, show (7 : Int32) * nI j = nI (7 * j) from pk_mul 7 j]
    refine wp_neg (by rw [nI_leI (by omega) (by omega)]; omega) ?_
    refine wp_ite (fun q => h61 _ ?_) (fun q => h61 _ ?_)
    · rw [if_pos (show bwf bw j = true from decide_eq_true q), nI_p1 hn1, pk_sub (by omega)]
    · rw [if_neg (fun h : bwf bw j = true => q (of_decide_eq_true h))]
theorem r_ts_2 (hL : LOK L) {bw : Int32} {d0 : Nat → Int32} : ∀ m fu k I, k + m = lJ L → m < fu → LdR I L → I 8 0 0 40 = bw → (∀ j, j < lJ L → I 53 0 0 j = d0 j) →
    (∀ j, j < k → ∀ i, i < lns L j → I 68 0 0 (7 * j + i) = nI (twB L (bwf bw) j i) ∧ I 69 0 0 (7 * j + i) = dyB L (bwf bw) d0 j i) →
    wp (f_X8_tellStops_2 fu I (nI k)) (fun I' => Fr [(68, 0), (69, 0)] I I' ∧ rJ I' (lJ L) (lns L) (twB L (bwf bw)) (dyB L (bwf bw) d0)) := by
  have ⟨hT9, hJ5, hC6, hns, hrt, hrm, _⟩ := hL
  intro m
  induction m with
  | zero =>
    intro fu k I hk hf h h40 h53 hh
    obtain ⟨g, rfl⟩ := Nat.exists_eq_succ_of_ne_zero (by omega : fu ≠ 0)
    have hk' : k = lJ L := by omega
    subst hk'
    unfold f_X8_tellStops_2
    rw [h.1]
    refine wp_pos (by rw [nI_leI (by omega) (by omega)]; omega) (wp_some ⟨Fr.rfl, h.1, hJ5, fun j hj => ⟨h.2.1 j hj, (hns j hj).2⟩, fun j hj i hi => ⟨(hh j hj i hi).1, (hh j hj i hi).2, ?_⟩⟩)
    unfold twB roB
    split
    · have := hrt j hj (lns L j - 1 - i) (by omega); omega
    · have := hrt j hj i hi; omega
  | succ m ih =>
    intro fu k I hk hf h h40 h53 hh
    obtain ⟨g, rfl⟩ := Nat.exists_eq_succ_of_ne_zero (by omega : fu ≠ 0)
    unfold f_X8_tellStops_2
    rw [h.1]
    refine wp_neg (by rw [nI_leI (by omega) (by omega)]; omega) (wp_gd (inb_n (by omega)) (wp_bnd ?_))
    rw [nI_clamp (by omega), h53 k (by omega)]
    refine r_ts_21 hL (by omega : k < lJ L) (lns L k) FU 0 I _ (by omega) (by have := hns k (by omega); unfold FU; omega) h h40 (fun i hi => absurd hi (Nat.not_lt_zero i)) rfl ?_
    intro I' F a b
    refine wp_mono (ih g (k + 1) I' (by omega) (by omega) (RL_fr h F (by simp)) (by rw [F.g (c := 8) (z := 0) (by simp)]; exact h40) (by rw [F.g (c := 53) (z := 0) (by simp)]; exact h53) ?_) ?_
    · intro j hj i hi
      by_cases e : j = k
      · rw [e]; rw [e] at hi; exact a i hi
      · have := (hns j (by omega)).2
        rw [(b (7 * j + i) (by omega)).1, (b (7 * j + i) (by omega)).2]; exact hh j (by omega) i hi
    · rintro r ⟨A, C⟩
      exact ⟨F.tr A, C⟩
theorem r_tellStops (hL : LOK L) {bw : Int32} {d0 : Nat → Int32} {I : Mem} (h : LdR I L) (h40 : I 8 0 0 40 = bw) (h53 : ∀ j, j < lJ L → I 53 0 0 j = d0 j) :
    wp (f_X8_tellStops I) (fun I' => Fr [(68, 0), (69, 0)] I I' ∧ rJ I' (lJ L) (lns L) (twB L (bwf bw)) (dyB L (bwf bw) d0)) := by
  have hJ5 := hL.2.1
  exact r_ts_2 hL (lJ L) FU 0 I (by omega) (by unfold FU; omega) h h40 h53 (fun j hj => absurd hj (Nat.not_lt_zero j))
theorem r_set_22 (hL : LOK L) : ∀ m fu k I w, k + m = lJ L → m < fu → LdR I L → I 8 0 0 41 = w →
    wp (f_X8_set_22 fu I (nI k)) (fun I' => Fr [(8, 0)] I I' ∧ (∀ f, f ≠ 41 → I' 8 0 0 f = I 8 0 0 f) ∧ I' 8 0 0 41 = bs (fun j => decide (lkd L j = 1)) k m w) := by
  have hJ5 := hL.2.1
  intro m
  induction m with
  | zero =>
    intro fu k I w hk hf h hw
    obtain ⟨g, rfl⟩ := Nat.exists_eq_succ_of_ne_zero (by omega : fu ≠ 0)
    unfold f_X8_set_22
    rw [h.1]
    exact wp_pos (by rw [nI_leI (by omega) (by omega)]; omega) (wp_some ⟨Fr.rfl, fun _ _ => rfl, hw⟩)
  | succ m ih =>
    intro fu k I w hk hf h hw
    obtain ⟨g, rfl⟩ := Nat.exists_eq_succ_of_ne_zero (by omega : fu ≠ 0)
    have e52 := (h.2.2.2.2.2.2.2.1 k (by omega)).1
    unfold f_X8_set_22
    rw [h.1]
    refine wp_neg (by rw [nI_leI (by omega) (by omega)]; omega) (wp_gd (inb_n (by omega)) ?_)
    rw [nI_clamp (by omega), e52, hw, nI_1, bs]
    have u : ∀ x, Fr [(8, 0)] I (upd4 I 8 0 0 41 x) := fun x => Fr.up (by simp)
    refine wp_ite (fun q => wp_bnd ?_) (fun q => wp_bnd ?_)
    · refine wp_mono (ih g (k + 1) _ (w ||| jshl 1 (nI k)) (by omega) (by omega) (RL_fr h (u _) (by simp)) u_at) ?_
      rintro r ⟨A, C, D⟩
      refine ⟨(u _).tr A, fun f hf => ?_, ?_⟩
      · rw [C f hf, u_if, if_neg (fun q => hf q.2)]
      · rw [D, if_pos (by simp [q])]
    · have w0 : w ||| 0 = w := by
        apply b_ext; intro i hi; rw [b_or, b_0, Bool.or_false]
      refine wp_mono (ih g (k + 1) _ w (by omega) (by omega) (RL_fr h (u _) (by simp)) (by rw [u_at, w0])) ?_
      rintro r ⟨A, C, D⟩
      refine ⟨(u _).tr A, fun f hf => ?_, ?_⟩
      · rw [C f hf, u_if, if_neg (fun q => hf q.2)]
      · rw [D, if_neg (by simp [q])]
theorem r_set (hL : LOK L) {I : Mem} (h : LdR I L) : wp (f_X8_set I) (fun I' => Fr [(8, 0)] I I' ∧ (∀ f, f < 40 ∨ 43 < f → I' 8 0 0 f = I 8 0 0 f) ∧ I' 8 0 0 40 = -1 ∧ I' 8 0 0 41 = qdf L ∧ I' 8 0 0 42 = 0 ∧ I' 8 0 0 43 = -1) := by
  have hJ5 := hL.2.1
  unfold f_X8_set
  refine wp_bnd (wp_bnd (wp_bnd (wp_bnd ?_)))
  have u : ∀ (I : Mem) f x, Fr [(8, 0)] I (upd4 I 8 0 0 f x) := fun I f x => Fr.up (by simp)
  have F := (((u I 40 (-1)).tr (u _ 42 0)).tr (u _ 43 (-1))).tr (u _ 41 0)
  refine wp_mono (r_set_22 hL (lJ L) FU 0 _ 0 (by omega) (by unfold FU; omega) (RL_fr h F (by simp)) u_at) ?_
  rintro r ⟨A, C, D⟩
  refine ⟨F.tr A, fun f hf => ?_, ?_, D, ?_, ?_⟩
  · rw [C f (by omega), u_if, if_neg (by omega), u_if, if_neg (by omega), u_if, if_neg (by omega), u_if, if_neg (by omega)]
  · rw [C 40 (by omega), u_if, if_neg (by omega), u_if, if_neg (by omega), u_if, if_neg (by omega), u_at]
  · rw [C 42 (by omega), u_if, if_neg (by omega), u_if, if_neg (by omega), u_at]
  · rw [C 43 (by omega), u_if, if_neg (by omega), u_at]
end
