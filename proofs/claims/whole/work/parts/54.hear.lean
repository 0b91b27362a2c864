/-! the class's court: hearing -/
def Hp (tw : Nat → Nat → Nat) (dy : Nat → Nat → Int32) (pf : Nat → Nat → Int32) (nf : Nat) (f1 f2 f3 : Nat → Int32) (c j i : Nat) : Bool :=
  decide (pf c (tw j i) ≠ -1) && !isF nf f1 f2 f3 (nI (tw j i)) (dy j i)
def cC (I : Mem) (P : PMem) (z : Nat) (C : Nat) (pf : Nat → Nat → Int32) : Prop :=
  I 3 (P 1 z 0 0) 0 13 = nI C ∧ C ≤ 6 ∧ ∀ c, c < C → ∀ t, t < 9 → I 40 (P 1 z 0 0) c t = pf c t
def cKd (I : Mem) (P : PMem) (z J : Nat) (kd hs : Nat → Int32) : Prop := ∀ j, j < J → I 33 (P 1 z 0 0) 0 j = kd j ∧ I 35 (P 1 z 0 0) 0 j = hs j
def cW (I : Mem) (P : PMem) (z : Nat) (cd : Nat → Nat) (len : Nat) : Prop :=
  I 4 (P 1 z 0 0) 0 1 = nI len ∧ (∀ k, k < len → I 41 (P 1 z 0 0) 0 k = nI (cd k)) ∧ vld cd len
def cH (I : Mem) (P : PMem) (z J : Nat) (ns : Nat → Nat) (tw : Nat → Nat → Nat) (dy : Nat → Nat → Int32) (C : Nat) (pf : Nat → Nat → Int32) (kd hs : Nat → Int32) (cd : Nat → Nat) (len : Nat) (nf : Nat) (f1 f2 f3 : Nat → Int32) : Prop :=
  cJ I P z J ns tw dy ∧ P 1 z 0 1 = 0 ∧ cC I P z C pf ∧ cKd I P z J kd hs ∧ cW I P z cd len ∧ cRw I 1 nf f1 f2 f3
def hS1 (I : Mem) (z : Nat) (H : Nat → Nat → Nat → Bool) (tw : Nat → Nat → Nat) (dy : Nat → Nat → Int32) (G : Nat → Nat → Bool) (c j n : Nat) : Prop :=
  I 16 z c j = sdA H dy c j n ∧ I 18 z c j = stA H tw c j n ∧ I 20 z c j = sgA H G c j n
def hS (I : Mem) (z C J : Nat) (H : Nat → Nat → Nat → Bool) (tw : Nat → Nat → Nat) (dy : Nat → Nat → Int32) (G : Nat → Nat → Bool) (m : Nat → Nat) : Prop :=
  ∀ c, c < C → ∀ j, j < J → hS1 I z H tw dy G c j (m j)
section
variable {P : PMem} {z J : Nat} {ns : Nat → Nat} {tw : Nat → Nat → Nat} {dy : Nat → Nat → Int32} {C : Nat} {pf : Nat → Nat → Int32} {kd hs : Nat → Int32} {cd : Nat → Nat} {len : Nat} {nf : Nat} {f1 f2 f3 : Nat → Int32}
variable {H : Nat → Nat → Nat → Bool} {G : Nat → Nat → Bool} {m : Nat → Nat}
theorem cH_fr {I I' : Mem} {S : List (Nat × Nat)} (h : cH I P z J ns tw dy C pf kd hs cd len nf f1 f2 f3) (F : Fr S I I') (hs' : ∀ c, c ∈ [3, 4, 6, 12, 14, 33, 35, 36, 40, 41, 44, 45, 46] → ∀ z, ¬ (c, z) ∈ S) : cH I' P z J ns tw dy C pf kd hs cd len nf f1 f2 f3 := by
  unfold cH cJ cC cKd cW cRw at *
  rw [F.gc (hs' 3 (by decide)), F.gc (hs' 4 (by decide)), F.gc (hs' 6 (by decide)), F.gc (hs' 12 (by decide)), F.gc (hs' 14 (by decide)), F.gc (hs' 33 (by decide)), F.gc (hs' 35 (by decide)), F.gc (hs' 36 (by decide)), F.gc (hs' 40 (by decide)), F.gc (hs' 41 (by decide)), F.gc (hs' 44 (by decide)), F.gc (hs' 45 (by decide)), F.gc (hs' 46 (by decide))]
  exact h
theorem hS1_same {I : Mem} {c j : Nat} (h : hS1 I z H tw dy G c j (m j)) (q : ff (H c j) 0 (m j) < m j ∨ H c j (m j) = false) : hS1 I z H tw dy G c j (m j + 1) := by
  obtain ⟨h1, h2, h3⟩ := h
  refine ⟨h1.trans ?_, h2.trans ?_, h3.trans ?_⟩
  · rw [sdA_step]
    split
    · rfl
    · rename_i e
      rw [q.resolve_left e, if_neg (by decide)]; exact if_neg e
  · rw [stA_step]
    split
    · rfl
    · rename_i e
      rw [q.resolve_left e, if_neg (by decide)]; exact if_neg e
  · rw [sgA_step]
    split
    · rfl
    · rename_i e
      rw [q.resolve_left e, if_neg (by decide)]; exact if_neg e
theorem b01 {b c : Bool} (k1 k2 : Option Mem) : (if bI b = bI c then k1 else k2) = (if b = c then k1 else k2) := by
  cases b <;> cases c <;> simp [bI]
theorem c_hearIn_13 (hd : Days dy J ns) (ho : ∀ j, j < J → m j ≤ ns j) {j : Nat} (hj : j < J) (hi : m j < ns j)
    (hfe : isF nf f1 f2 f3 (nI (tw j (m j))) (dy j (m j)) = false)
    (hG : ∀ c, c < C → ¬ ff (Hp tw dy pf nf f1 f2 f3 c j) 0 (m j) < m j → Hp tw dy pf nf f1 f2 f3 c j (m j) = true → vdc cd len pf hs kd c j (tw j (m j)) (dy j (m j)) (bfr (Hp tw dy pf nf f1 f2 f3) dy J c m (dy j (m j))) = G c j) :
    ∀ mm fu k I, k + mm = C → mm < fu → cH I P z J ns tw dy C pf kd hs cd len nf f1 f2 f3 →
    (∀ c, c < C → ∀ j', j' < J → hS1 I z (Hp tw dy pf nf f1 f2 f3) tw dy G c j' (if c < k then inc m j j' else m j')) →
    wp (f_X1_hearIn_13 P z fu I (nI (tw j (m j))) (nI j) (dy j (m j)) (nI k)) (fun I' => Fr [(16, z), (18, z), (20, z), (42, P 1 z 0 0), (43, P 1 z 0 0)] I I' ∧ hS I' z C J (Hp tw dy pf nf f1 f2 f3) tw dy G (inc m j)) := by
  intro mm
  induction mm with
  | zero =>
    intro fu k I hk hf h hh
    obtain ⟨g, rfl⟩ := Nat.exists_eq_succ_of_ne_zero (by omega : fu ≠ 0)
    obtain ⟨⟨hP, hJ, hJ5, hns, hst⟩, hb, ⟨hC, hC6, hpf⟩, hK, hW, hF⟩ := h
    unfold f_X1_hearIn_13
    refine wp_gd (dlt hP) ?_
    rw [hC]
    refine wp_pos (by rw [nI_leI (by omega) (by omega)]; omega) (wp_some ⟨Fr.rfl, ?_⟩)
    intro c hc j' hj'
    have := hh c hc j' hj'
    rwa [if_pos (by omega)] at this
  | succ mm ih =>
    intro fu k I hk hf h hh
    obtain ⟨g, rfl⟩ := Nat.exists_eq_succ_of_ne_zero (by omega : fu ≠ 0)
    have h0 := h
    obtain ⟨hcJ, hb, ⟨hC, hC6, hpf⟩, hK, hW, hF⟩ := h
    have ⟨hP, hJ, hJ5, hns, hst⟩ := hcJ
    obtain ⟨hn, hn7⟩ := hns j hj
    obtain ⟨e12, e14, ht9⟩ := hst j hj (m j) hi
    have hkC : k < C := by omega
    have hx := hpf k hkC _ ht9
    have hkj := hh k hkC j hj
    rw [if_neg (Nat.lt_irrefl k)] at hkj
    have nxt : ff (Hp tw dy pf nf f1 f2 f3 k j) 0 (m j) < m j ∨ Hp tw dy pf nf f1 f2 f3 k j (m j) = false →
        wp (f_X1_hearIn_13 P z g I (nI (tw j (m j))) (nI j) (dy j (m j)) (nI k + 1)) (fun I' => Fr [(16, z), (18, z), (20, z), (42, P 1 z 0 0), (43, P 1 z 0 0)] I I' ∧ hS I' z C J (Hp tw dy pf nf f1 f2 f3) tw dy G (inc m j)) := by
      intro q
      rw [nI_1]
      refine ih g (k + 1) I (by omega) (by omega) h0 ?_
      intro c hc j' hj'
      have := hh c hc j' hj'
      by_cases e : c = k
      · subst e
        rw [if_neg (Nat.lt_irrefl c)] at this
        rw [if_pos (Nat.lt_succ_self c)]
        by_cases e2 : j' = j
        · subst e2; rw [inc_at]; exact hS1_same this q
        · rw [inc_ne e2]; exact this
      · by_cases e2 : c < k
        · rw [if_pos (by omega)]; rwa [if_pos e2] at this
        · rw [if_neg (by omega)]; rwa [if_neg e2] at this
    unfold f_X1_hearIn_13
    refine wp_gd (dlt hP) ?_
    rw [hC]
    refine wp_neg (by rw [nI_leI (by omega) (by omega)]; omega) (wp_gd (inb_n (by omega)) (wp_gd (inb_n ht9) (wp_bnd ?_)))
    rw [nI_clamp (by omega), nI_clamp (by omega), nI_clamp (by omega), hx]
    refine wp_ite (fun q => ?_) (fun q => wp_gd (inb_n (by omega)) (wp_ite (fun q2 => ?_) (fun q2 => ?_)))
    · exact nxt (Or.inr (by unfold Hp; simp [q]))
    · -- first hearing
      have hnt : ¬ ff (Hp tw dy pf nf f1 f2 f3 k j) 0 (m j) < m j := by
        rw [hkj.1] at q2
        exact (sdA_no hd hj (by omega)).mp q2
      have hHt : Hp tw dy pf nf f1 f2 f3 k j (m j) = true := by unfold Hp; simp [q, hfe]
      have hv := hG k hkC hnt hHt
      have hbf := c_before hcJ (c := k) (by omega) (sd := fun j' => sdA (Hp tw dy pf nf f1 f2 f3) dy k j' (m j')) (fun j' hj' => by
        have := (hh k hkC j' hj').1
        rwa [if_neg (Nat.lt_irrefl k)] at this) (dy j (m j))
      refine wp_bindE _ hbf ?_
      rw [(hK j hj).2]
      refine wp_bind (c_gives hW.2.2 hW.1 hW.2.1 _ _ _ _ _) ?_
      rintro ⟨y, I2⟩ ⟨e1, F2⟩
      have hH2 : cH I2 P z J ns tw dy C pf kd hs cd len nf f1 f2 f3 := cH_fr h0 F2 (by simp)
      have e1' : y = lawv cd len (pf k (tw j (m j))) (hs j) (dy j (m j)) (nI (tw j (m j))) (nI (bfr (Hp tw dy pf nf f1 f2 f3) dy J k m (dy j (m j)))) := e1
      -- the verdict
      have hfin : ∀ v7 : Bool, v7 = decide (0 < y) → wp (f_X1_hearIn_100 (f_X1_hearIn_13 P z g) P z I2 (nI (tw j (m j))) (nI j) (dy j (m j)) (nI k) (bI v7)) (fun I' => Fr [(16, z), (18, z), (20, z), (42, P 1 z 0 0), (43, P 1 z 0 0)] I I' ∧ hS I' z C J (Hp tw dy pf nf f1 f2 f3) tw dy G (inc m j)) := by
        intro v7 hv7
        have hK2 := hH2.2.2.2.1
        unfold f_X1_hearIn_100
        refine wp_gd (dlt hP) (wp_gd (inb_n (by omega)) ?_)
        rw [nI_clamp (by omega), (hK2 j hj).1]
        have h142 : wp (f_X1_hearIn_142 (f_X1_hearIn_13 P z g) P z I2 (nI (tw j (m j))) (nI j) (dy j (m j)) (nI k) (bI (G k j)) (nI j) z (nI k).toNatClampNeg) (fun I' => Fr [(16, z), (18, z), (20, z), (42, P 1 z 0 0), (43, P 1 z 0 0)] I I' ∧ hS I' z C J (Hp tw dy pf nf f1 f2 f3) tw dy G (inc m j)) := by
          unfold f_X1_hearIn_142
          refine wp_gd (inb_n (by omega)) (wp_bnd (wp_gd (inb_n (by omega)) (wp_gd (inb_n (by omega)) (wp_bnd (wp_bnd ?_)))))
          rw [nI_clamp (by omega), nI_clamp (by omega), nI_1]
          have F3 : Fr [(16, z), (18, z), (20, z), (42, P 1 z 0 0), (43, P 1 z 0 0)] I2 (upd4 (upd4 (upd4 I2 20 z k j (bI (G k j))) 16 z k j (dy j (m j))) 18 z k j (nI (tw j (m j)))) :=
            ((Fr.up (by simp)).tr (Fr.up (by simp))).tr (Fr.up (by simp))
          refine wp_mono (ih g (k + 1) _ (by omega) (by omega) (cH_fr hH2 F3 (by simp)) ?_) ?_
          · intro c hc j' hj'
            have := hh c hc j' hj'
            have e16 : I2 16 = I 16 := F2.gc (by simp)
            have e18 : I2 18 = I 18 := F2.gc (by simp)
            have e20 : I2 20 = I 20 := F2.gc (by simp)
            by_cases e : c = k ∧ j' = j
            · obtain ⟨rfl, rfl⟩ := e
              rw [if_pos (Nat.lt_succ_self c), inc_at]
              refine ⟨?_, ?_, ?_⟩
              · rw [u_c (by decide), u_at, sdA_step, if_neg hnt, hHt, if_pos rfl]
              · rw [u_at, stA_step, if_neg hnt, hHt, if_pos rfl]
              · rw [u_c (by decide), u_c (by decide), u_at, sgA_step, if_neg hnt, hHt, if_pos rfl]
            · have r : hS1 I z (Hp tw dy pf nf f1 f2 f3) tw dy G c j' (if c < k + 1 then inc m j j' else m j') := by
                by_cases e2 : c = k
                · subst e2
                  rw [if_neg (Nat.lt_irrefl c)] at this
                  rw [if_pos (Nat.lt_succ_self c), inc_ne (fun q => e ⟨rfl, q⟩)]; exact this
                · by_cases e3 : c < k
                  · rw [if_pos (by omega)]; rwa [if_pos e3] at this
                  · rw [if_neg (by omega)]; rwa [if_neg e3] at this
              obtain ⟨r1, r2, r3⟩ := r
              refine ⟨?_, ?_, ?_⟩
              · rw [u_c (by decide), u_if, if_neg e, u_c (by decide), e16]; exact r1
              · rw [u_if, if_neg e, u_c (by decide), u_c (by decide), e18]; exact r2
              · rw [u_c (by decide), u_c (by decide), u_if, if_neg e, e20]; exact r3
          · rintro r ⟨a, b⟩
            exact ⟨((F2.sub (by simp)).tr F3).tr a, b⟩
        have hGk : G k j = (v7 != decide (kd j = 2)) := by
          rw [hv7, ← hv, e1']; rfl
        have h120 : ∀ w : Bool, w = decide (kd j = 2) → wp (f_X1_hearIn_120 (f_X1_hearIn_13 P z g) P z I2 (nI (tw j (m j))) (nI j) (dy j (m j)) (nI k) (bI v7) (bI w)) (fun I' => Fr [(16, z), (18, z), (20, z), (42, P 1 z 0 0), (43, P 1 z 0 0)] I I' ∧ hS I' z C J (Hp tw dy pf nf f1 f2 f3) tw dy G (inc m j)) := by
          intro w hw
          rw [← hw] at hGk
          unfold f_X1_hearIn_120
          refine wp_gd (inb_n (by omega)) ?_
          rw [b01]
          refine wp_ite (fun q3 => ?_) (fun q3 => ?_)
          · have : G k j = false := by rw [hGk, q3]; cases w <;> rfl
            rw [this] at h142; exact h142
          · have : G k j = true := by rw [hGk]; revert q3; cases v7 <;> cases w <;> decide
            rw [this] at h142; exact h142
        refine wp_ite (fun q3 => h120 true (by simp [q3])) (fun q3 => h120 false (by simp [q3]))
      refine wp_ite (fun q3 => hfin false ?_) (fun q3 => hfin true ?_)
      · have q4 : y ≤ 0 := q3
        have : ¬ 0 < y := by rw [fa_lt]; rw [fa_le] at q4; have : (0 : Int32).toInt = 0 := rfl; omega
        simp [this]
      · have : 0 < y := fa_of_nle q3
        simp [this]
    · refine nxt (Or.inl ?_)
      rw [hkj.1] at q2
      have := (sdA_no (H := Hp tw dy pf nf f1 f2 f3) (c := k) hd hj (by omega : m j ≤ ns j))
      by_cases e : ff (Hp tw dy pf nf f1 f2 f3 k j) 0 (m j) < m j
      · exact e
      · exact absurd (this.mpr e) q2
theorem c_hearIn {I : Mem} (hd : Days dy J ns) (ho : ∀ j, j < J → m j ≤ ns j) {j : Nat} (hj : j < J) (hi : m j < ns j)
    (hmin : ∀ j' i', j' < J → m j' ≤ i' → i' < ns j' → dy j (m j) ≤ dy j' i')
    (h : cH I P z J ns tw dy C pf kd hs cd len nf f1 f2 f3)
    (hh : hS I z C J (Hp tw dy pf nf f1 f2 f3) tw dy (Gv (Hp tw dy pf nf f1 f2 f3) tw dy cd len pf hs kd J ns) m) :
    wp (f_X1_hearIn P z I (nI (tw j (m j))) (nI j) (dy j (m j))) (fun I' => Fr [(16, z), (18, z), (20, z), (42, P 1 z 0 0), (43, P 1 z 0 0)] I I' ∧ hS I' z C J (Hp tw dy pf nf f1 f2 f3) tw dy (Gv (Hp tw dy pf nf f1 f2 f3) tw dy cd len pf hs kd J ns) (inc m j)) := by
  unfold f_X1_hearIn
  refine wp_bindE _ (c_isFeast h.2.1 h.2.2.2.2.2 _ _) ?_
  have hC6 := h.2.2.1.2.1
  refine wp_ite (fun q => ?_) (fun q => wp_some ⟨Fr.rfl, ?_⟩)
  · refine c_hearIn_13 hd ho hj hi (bI_0.mp q) (fun c hc h1 h2 => Gv_ok hd ho hi hmin h1 h2) C FU 0 I (by omega) (by unfold FU; omega) h ?_
    intro c hc j' hj'
    rw [if_neg (Nat.not_lt_zero c)]; exact hh c hc j' hj'
  · intro c hc j' hj'
    have := hh c hc j' hj'
    by_cases e : j' = j
    · subst e
      rw [inc_at]
      refine hS1_same this (Or.inr ?_)
      have : isF nf f1 f2 f3 (nI (tw j' (m j'))) (dy j' (m j')) = true := by
        by_cases e : isF nf f1 f2 f3 (nI (tw j' (m j'))) (dy j' (m j')) = true
        · exact e
        · exact absurd (bI_0.mpr (Bool.eq_false_iff.mpr e)) q
      unfold Hp
      simp [this]
    · rw [inc_ne e]; exact this
end
