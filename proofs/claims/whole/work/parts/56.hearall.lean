/-! the class's court: all hearings -/
theorem c_fill_5 {c z r n : Nat} (hn : n ≤ cL c z) (hn1 : cL c z < 1500) (v : Int32) : ∀ m fu k I, k + m = n → m < fu →
    wp (f_J7_fill_53178_5 c z r fu I v (nI k) (nI n)) (fun I' => Fr [(c, z)] I I' ∧ ∀ r' i', I' c z r' i' = if r' = r ∧ k ≤ i' ∧ i' < n then v else I c z r' i') := by
  intro m
  induction m with
  | zero =>
    intro fu k I hk hf
    obtain ⟨g, rfl⟩ := Nat.exists_eq_succ_of_ne_zero (by omega : fu ≠ 0)
    unfold f_J7_fill_53178_5
    refine wp_pos (by rw [nI_leI (by omega) (by omega)]; omega) (wp_some ⟨Fr.rfl, fun r' i' => ?_⟩)
    rw [if_neg (by omega)]
  | succ m ih =>
    intro fu k I hk hf
    obtain ⟨g, rfl⟩ := Nat.exists_eq_succ_of_ne_zero (by omega : fu ≠ 0)
    unfold f_J7_fill_53178_5
    refine wp_neg (by rw [nI_leI (by omega) (by omega)]; omega) (wp_gd (inb_n (by omega) (by omega)) (wp_bnd ?_))
    rw [nI_1, nI_clamp (by omega)]
    refine wp_mono (ih g (k + 1) _ (by omega) (by omega)) ?_
    rintro I' ⟨F, h⟩
    refine ⟨(Fr.up (by simp)).tr F, fun r' i' => ?_⟩
    rw [h, u_if]
    by_cases e : r' = r ∧ i' = k
    · rw [if_neg (by omega), if_pos e, if_pos (by omega)]
    · by_cases e2 : r' = r ∧ k ≤ i' ∧ i' < n
      · rw [if_pos (by omega), if_pos e2]
      · rw [if_neg (by omega), if_neg e, if_neg e2]
theorem c_fill {c z r : Nat} {I : Mem} (hn1 : cL c z < 1500) (v : Int32) :
    wp (f_J7_fill_53178 c z r I v) (fun I' => Fr [(c, z)] I I' ∧ ∀ r' i', I' c z r' i' = if r' = r ∧ i' < cL c z then v else I c z r' i') := by
  unfold f_J7_fill_53178
  refine wp_bnd ?_
  refine wp_mono (c_fill_5 (Nat.le_refl _) hn1 v (cL c z) FU 0 I (by omega) (by unfold FU; omega)) ?_
  rintro I' ⟨F, h⟩
  refine ⟨F, fun r' i' => ?_⟩
  rw [h]
  by_cases e : r' = r ∧ i' < cL c z
  · rw [if_pos e, if_pos (by omega)]
  · rw [if_neg e, if_neg (by omega)]
def sm (ns m : Nat → Nat) : Nat → Nat
  | 0 => 0
  | J + 1 => sm ns m J + (ns J - m J)
theorem sm_le {ns m : Nat → Nat} : ∀ {J : Nat}, (∀ j, j < J → ns j ≤ 7) → sm ns m J ≤ 7 * J
  | 0, _ => by simp [sm]
  | J + 1, h => by
    have := sm_le (ns := ns) (m := m) (J := J) (fun j hj => h j (by omega))
    have := h J (by omega)
    unfold sm; omega
theorem sm_same {ns m : Nat → Nat} {j : Nat} : ∀ {J : Nat}, J ≤ j → sm ns (inc m j) J = sm ns m J
  | 0, _ => rfl
  | J + 1, h => by
    unfold sm
    rw [sm_same (by omega), inc_ne (by omega)]
theorem sm_inc {ns m : Nat → Nat} {j : Nat} (hm : m j < ns j) : ∀ {J : Nat}, j < J → sm ns (inc m j) J + 1 = sm ns m J
  | 0, h => by omega
  | J + 1, h => by
    unfold sm
    by_cases e : j = J
    · subst e
      rw [sm_same (Nat.le_refl j), inc_at]; omega
    · have := sm_inc hm (J := J) (by omega)
      rw [inc_ne (by omega)]; omega
theorem sm_0 {ns m : Nat → Nat} : ∀ {J : Nat}, sm ns m J = 0 → ∀ j, j < J → ns j ≤ m j
  | 0, _, j, hj => by omega
  | J + 1, h, j, hj => by
    unfold sm at h
    by_cases e : j = J
    · subst e; omega
    · exact sm_0 (J := J) (by omega) j (by omega)
section
variable {P : PMem} {z J : Nat} {ns : Nat → Nat} {tw : Nat → Nat → Nat} {dy : Nat → Nat → Int32} {C : Nat} {pf : Nat → Nat → Int32} {kd hs : Nat → Int32} {cd : Nat → Nat} {len : Nat} {nf : Nat} {f1 f2 f3 : Nat → Int32}
variable {T : Nat} {nw : Nat → Nat → Int32} {n : Nat} {w1 w3 : Nat → Int32} {wt : Nat → Nat}
theorem c_next_6 {I : Mem} {m : Nat → Nat} (h : cJ I P z J ns tw dy) (hm : ∀ j, j < J → I 25 z 0 j = nI (m j) ∧ m j ≤ ns j) : ∀ mm fu k v1 v2, k + mm = J → mm < fu →
    ((v1 = -1 ∧ ∀ j, j < k → ns j ≤ m j) ∨ (∃ j, j < k ∧ v1 = nI j ∧ v2 = dy j (m j) ∧ m j < ns j ∧ ∀ j', j' < k → m j' < ns j' → dy j (m j) ≤ dy j' (m j'))) →
    wp (f_X1_nextWhoComes_6 I P z fu v1 v2 (nI k)) (fun r => (r = -1 ∧ ∀ j, j < J → ns j ≤ m j) ∨ (∃ j, j < J ∧ r = nI j ∧ m j < ns j ∧ ∀ j', j' < J → m j' < ns j' → dy j (m j) ≤ dy j' (m j'))) := by
  have ⟨hP, hJ, hJ5, hns, hst⟩ := h
  intro mm
  induction mm with
  | zero =>
    intro fu k v1 v2 hk hf hi
    obtain ⟨g, rfl⟩ := Nat.exists_eq_succ_of_ne_zero (by omega : fu ≠ 0)
    have hk' : k = J := by omega
    subst hk'
    unfold f_X1_nextWhoComes_6
    rw [hJ]
    refine wp_gd (dlt hP) (wp_pos (by rw [nI_leI (by omega) (by omega)]; omega) (wp_some ?_))
    rcases hi with hi | ⟨j, a, b, c, d, e⟩
    · exact Or.inl hi
    · exact Or.inr ⟨j, a, b, d, e⟩
  | succ mm ih =>
    intro fu k v1 v2 hk hf hi
    obtain ⟨g, rfl⟩ := Nat.exists_eq_succ_of_ne_zero (by omega : fu ≠ 0)
    have hkJ : k < J := by omega
    obtain ⟨hn, hn7⟩ := hns k hkJ
    obtain ⟨hmk, hmn⟩ := hm k hkJ
    unfold f_X1_nextWhoComes_6
    rw [hJ]
    refine wp_gd (dlt hP) (wp_neg (by rw [nI_leI (by omega) (by omega)]; omega) (wp_gd (inb_n (by omega)) (wp_bnd ?_)))
    rw [nI_clamp (by omega), hn, hmk, nI_1]
    refine wp_ite (fun q => ?_) (fun q => ?_)
    · rw [nI_leI (by omega) (by omega)] at q
      refine ih g (k + 1) v1 v2 (by omega) (by omega) ?_
      rcases hi with ⟨a, b⟩ | ⟨j, a, b, c, d, e⟩
      · refine Or.inl ⟨a, fun j hj => ?_⟩
        by_cases e : j = k
        · subst e; exact q
        · exact b j (by omega)
      · refine Or.inr ⟨j, by omega, b, c, d, fun j' hj' h' => ?_⟩
        by_cases e' : j' = k
        · subst e'; omega
        · exact e j' (by omega) h'
    · rw [nI_leI (by omega) (by omega)] at q
      obtain ⟨e12, e14, _⟩ := hst k hkJ (m k) (by omega)
      have h57 : (∀ j', j' < k → m j' < ns j' → dy k (m k) ≤ dy j' (m j')) → wp (f_X1_nextWhoComes_57 (f_X1_nextWhoComes_6 I P z g) I P z (nI k) (nI (m k))) (fun r => (r = -1 ∧ ∀ j, j < J → ns j ≤ m j) ∨ (∃ j, j < J ∧ r = nI j ∧ m j < ns j ∧ ∀ j', j' < J → m j' < ns j' → dy j (m j) ≤ dy j' (m j'))) := by
        intro hle
        unfold f_X1_nextWhoComes_57
        refine wp_gd (inb_n (by omega)) (wp_gd (inb_n (by omega)) (wp_bnd ?_))
        rw [nI_clamp (by omega), nI_clamp (by omega), e14, nI_1]
        refine ih g (k + 1) _ _ (by omega) (by omega) (Or.inr ⟨k, by omega, rfl, rfl, by omega, fun j' hj' h' => ?_⟩)
        by_cases e' : j' = k
        · subst e'; rw [fa_le]; omega
        · exact hle j' (by omega) h'
      refine wp_ite (fun q2 => h57 ?_) (fun q2 => wp_gd (inb_n (by omega)) ?_)
      · rcases hi with ⟨a, b⟩ | ⟨j, a, b, c, d, e⟩
        · intro j' hj' h'
          have := b j' hj'; omega
        · rw [b] at q2
          exact absurd q2 (nI_ni (by omega))
      · rcases hi with ⟨a, b⟩ | ⟨j, a, b, c, d, e⟩
        · exact absurd a q2
        · rw [nI_clamp (by omega), e14, c]
          refine wp_ite (fun q3 => ?_) (fun q3 => h57 ?_)
          · refine ih g (k + 1) _ _ (by omega) (by omega) (Or.inr ⟨j, by omega, b, rfl, d, fun j' hj' h' => ?_⟩)
            by_cases e' : j' = k
            · subst e'; exact q3
            · exact e j' (by omega) h'
          · intro j' hj' h'
            have h1 := e j' hj' h'
            have h2 := fa_of_nle q3
            rw [fa_le] at h1 ⊢; rw [fa_lt] at h2; omega
theorem c_next {I : Mem} {m : Nat → Nat} (h : cJ I P z J ns tw dy) (hm : ∀ j, j < J → I 25 z 0 j = nI (m j) ∧ m j ≤ ns j) :
    wp (f_X1_nextWhoComes I P z) (fun r => (r = -1 ∧ ∀ j, j < J → ns j ≤ m j) ∨ (∃ j, j < J ∧ r = nI j ∧ m j < ns j ∧ ∀ j', j' < J → m j' < ns j' → dy j (m j) ≤ dy j' (m j'))) := by
  have h5 := h.2.2.1
  exact c_next_6 h hm J FU 0 _ _ (by omega) (by unfold FU; omega) (Or.inl ⟨rfl, fun j hj => absurd hj (Nat.not_lt_zero j)⟩)
/-- what words and news the court reads -/
def cNW (I : Mem) (P : PMem) (z T : Nat) (nw : Nat → Nat → Int32) (n : Nat) (w1 : Nat → Int32) (wt : Nat → Nat) (w3 : Nat → Int32) : Prop :=
  cNd I P z T nw ∧ cRw I 0 n w1 (fun k => nI (wt k)) w3 ∧ ∀ k, k < n → wt k < T
theorem cNW_fr {I I' : Mem} {S : List (Nat × Nat)} (h : cNW I P z T nw n w1 wt w3) (F : Fr S I I') (hs' : ∀ c, c ∈ [6, 32, 44, 45, 46] → ∀ z, ¬ (c, z) ∈ S) : cNW I' P z T nw n w1 wt w3 := by
  unfold cNW cNd cRw at *
  rw [F.gc (hs' 6 (by decide)), F.gc (hs' 32 (by decide)), F.gc (hs' 44 (by decide)), F.gc (hs' 45 (by decide)), F.gc (hs' 46 (by decide))]
  exact h
theorem hS_fr {I I' : Mem} {S : List (Nat × Nat)} {H : Nat → Nat → Nat → Bool} {G : Nat → Nat → Bool} {m : Nat → Nat} (h : hS I z C J H tw dy G m) (F : Fr S I I') (hs' : ∀ c, c ∈ [16, 18, 20] → ¬ (c, z) ∈ S) : hS I' z C J H tw dy G m := by
  unfold hS hS1 at *
  rw [F.g (hs' 16 (by decide)), F.g (hs' 18 (by decide)), F.g (hs' 20 (by decide))]
  exact h
theorem c_all_121 {H : Nat → Nat → Nat → Bool} {G : Nat → Nat → Bool} (hd : Days dy J ns) (hT : twT J ns tw T) : ∀ mm fu k I, k + mm = C → mm < fu →
    cH I P z J ns tw dy C pf kd hs cd len nf f1 f2 f3 → cNW I P z T nw n w1 wt w3 → hS I z C J H tw dy G ns → (∀ c, c < k → I 21 z 0 c = bs (rch H nw J ns tw dy n w1 wt w3 c) 0 J 0) →
    wp (f_X1_hearAll_121 P z fu I (nI k)) (fun I' => Fr [(21, z)] I I' ∧ ∀ c, c < C → I' 21 z 0 c = bs (rch H nw J ns tw dy n w1 wt w3 c) 0 J 0) := by
  intro mm
  induction mm with
  | zero =>
    intro fu k I hk hf h h2 h3 h4
    obtain ⟨g, rfl⟩ := Nat.exists_eq_succ_of_ne_zero (by omega : fu ≠ 0)
    obtain ⟨hcJ, hb, ⟨hC, hC6, hpf⟩, _⟩ := h
    have hk' : k = C := by omega
    subst hk'
    unfold f_X1_hearAll_121
    rw [hC]
    exact wp_gd (dlt hcJ.1) (wp_pos (by rw [nI_leI (by omega) (by omega)]; omega) (wp_some ⟨Fr.rfl, h4⟩))
  | succ mm ih =>
    intro fu k I hk hf h h2 h3 h4
    obtain ⟨g, rfl⟩ := Nat.exists_eq_succ_of_ne_zero (by omega : fu ≠ 0)
    have ⟨hcJ, hb, ⟨hC, hC6, hpf⟩, _⟩ := h
    unfold f_X1_hearAll_121
    rw [hC]
    refine wp_gd (dlt hcJ.1) (wp_neg (by rw [nI_leI (by omega) (by omega)]; omega) ?_)
    refine wp_bindE _ (c_any hcJ hb hd h2.1 hT h2.2.1 h2.2.2 (by omega : k < C) hC6 h3) (wp_gd (inb_n (by omega)) (wp_bnd ?_))
    rw [nI_clamp (by omega), nI_1]
    have F : Fr [(21, z)] I (upd4 I 21 z 0 k (bs (rch H nw J ns tw dy n w1 wt w3 k) 0 J 0)) := Fr.up (by simp)
    refine wp_mono (ih g (k + 1) _ (by omega) (by omega) (cH_fr h F (by simp)) (cNW_fr h2 F (by simp)) (hS_fr h3 F (by simp)) ?_) ?_
    · intro c hc
      rw [u_if]
      by_cases e : c = k
      · subst e; rw [if_pos ⟨rfl, rfl⟩]
      · rw [if_neg (fun q => e q.2)]; exact h4 c (by omega)
    · rintro r ⟨a, b⟩
      exact ⟨F.tr a, b⟩
end
