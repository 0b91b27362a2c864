/-! the class's court: all hearings, to their end -/
def LH (z l : Nat) : List (Nat × Nat) := [(16, z), (18, z), (20, z), (21, z), (25, z), (42, l), (43, l)]
section
variable {P : PMem} {z J : Nat} {ns : Nat → Nat} {tw : Nat → Nat → Nat} {dy : Nat → Nat → Int32} {C : Nat} {pf : Nat → Nat → Int32} {kd hs : Nat → Int32} {cd : Nat → Nat} {len : Nat} {nf : Nat} {f1 f2 f3 : Nat → Int32}
variable {T : Nat} {nw : Nat → Nat → Int32} {n : Nat} {w1 w3 : Nat → Int32} {wt : Nat → Nat}
theorem c_all_59 (hd : Days dy J ns) (hT : twT J ns tw T) : ∀ mm fu t I m, t + mm = 35 → mm < fu → sm ns m J ≤ mm →
    cH I P z J ns tw dy C pf kd hs cd len nf f1 f2 f3 → cNW I P z T nw n w1 wt w3 →
    hS I z C J (Hp tw dy pf nf f1 f2 f3) tw dy (Gv (Hp tw dy pf nf f1 f2 f3) tw dy cd len pf hs kd J ns) m → (∀ j, j < J → I 25 z 0 j = nI (m j) ∧ m j ≤ ns j) →
    wp (f_X1_hearAll_59 P z fu I (nI t)) (fun I' => Fr (LH z (P 1 z 0 0)) I I' ∧ hS I' z C J (Hp tw dy pf nf f1 f2 f3) tw dy (Gv (Hp tw dy pf nf f1 f2 f3) tw dy cd len pf hs kd J ns) ns ∧
      ∀ c, c < C → I' 21 z 0 c = bs (rch (Hp tw dy pf nf f1 f2 f3) nw J ns tw dy n w1 wt w3 c) 0 J 0) := by
  intro mm
  induction mm with
  | zero =>
    intro fu t I m hk hf hsm h h2 h3 h4
    obtain ⟨g, rfl⟩ := Nat.exists_eq_succ_of_ne_zero (by omega : fu ≠ 0)
    have hC6 := h.2.2.1.2.1
    have h0 := sm_0 (Nat.le_zero.mp hsm)
    unfold f_X1_hearAll_59
    refine wp_pos (by rw [show (35 : Int32) = nI 35 from rfl, nI_leI (by omega) (by omega)]; omega) ?_
    have h3' : hS I z C J (Hp tw dy pf nf f1 f2 f3) tw dy (Gv (Hp tw dy pf nf f1 f2 f3) tw dy cd len pf hs kd J ns) ns := by
      intro c hc j hj
      have := h3 c hc j hj
      rwa [show m j = ns j by have := h0 j hj; have := (h4 j hj).2; omega] at this
    refine wp_mono (c_all_121 hd hT C FU 0 I (by omega) (by unfold FU; omega) h h2 h3' (fun c hc => absurd hc (Nat.not_lt_zero c))) ?_
    rintro I' ⟨F, a⟩
    exact ⟨F.sub (by simp [LH]), hS_fr h3' F (by simp), a⟩
  | succ mm ih =>
    intro fu t I m hk hf hsm h h2 h3 h4
    obtain ⟨g, rfl⟩ := Nat.exists_eq_succ_of_ne_zero (by omega : fu ≠ 0)
    have ⟨hcJ, hb, ⟨hC, hC6, hpf⟩, _⟩ := h
    have ⟨hP, hJ, hJ5, hns, hst⟩ := hcJ
    unfold f_X1_hearAll_59
    refine wp_neg (by rw [show (35 : Int32) = nI 35 from rfl, nI_leI (by omega) (by omega)]; omega) ?_
    refine wp_bind (c_next hcJ h4) ?_
    intro y hy
    rw [nI_1]
    rcases hy with ⟨rfl, hdone⟩ | ⟨j, hj, rfl, hmj, hle⟩
    · refine wp_pos rfl (ih g (t + 1) I m (by omega) (by omega) ?_ h h2 h3 h4)
      have : sm ns m J = 0 := by
        have key : ∀ K, K ≤ J → sm ns m K = 0 := by
          intro K
          induction K with
          | zero => intro _; rfl
          | succ K ihK =>
            intro hK
            unfold sm
            rw [ihK (by omega)]
            have := hdone K (by omega); omega
        exact key J (Nat.le_refl J)
      omega
    · obtain ⟨e25, hmn⟩ := h4 j hj
      obtain ⟨hn, hn7⟩ := hns j hj
      obtain ⟨e12, e14, ht9⟩ := hst j hj (m j) hmj
      refine wp_neg (nI_ni (by omega)) (wp_gd (inb_n (by omega)) (wp_bnd (wp_bnd ?_)))
      rw [nI_clamp (by omega), e25, nI_1]
      refine wp_gd (inb_n (by omega)) ?_
      rw [nI_clamp (by omega), u_c (show (12 : Nat) ≠ 25 by decide), u_c (show (14 : Nat) ≠ 25 by decide), e12, e14]
      have F1 : Fr [(25, z)] I (upd4 I 25 z 0 j (nI (m j + 1))) := Fr.up (by simp)
      have hmin : ∀ j' i', j' < J → m j' ≤ i' → i' < ns j' → dy j (m j) ≤ dy j' i' := by
        intro j' i' hj' a b
        have h1 := hle j' hj' (by omega)
        by_cases e : m j' = i'
        · rw [← e]; exact h1
        · have := hd.2 j' (m j') i' hj' (by omega) b
          rw [fa_le] at h1 ⊢; omega
      refine wp_bind (c_hearIn hd (fun j hj => (h4 j hj).2) hj hmj hmin (cH_fr h F1 (by simp)) (hS_fr h3 F1 (by simp))) ?_
      rintro I2 ⟨F2, h5⟩
      refine wp_mono (ih g (t + 1) I2 (inc m j) (by omega) (by omega) ?_ (cH_fr (cH_fr h F1 (by simp)) F2 (by simp)) (cNW_fr (cNW_fr h2 F1 (by simp)) F2 (by simp)) h5 ?_) ?_
      · have := sm_inc (ns := ns) (m := m) hmj hj; omega
      · intro j' hj'
        rw [F2.g (c := 25) (z := z) (by simp), u_if]
        by_cases e : j' = j
        · subst e
          rw [if_pos ⟨rfl, rfl⟩, inc_at]; exact ⟨rfl, by omega⟩
        · rw [if_neg (fun q => e q.2), inc_ne e]; exact h4 j' hj'
      · rintro I' ⟨F, a⟩
        exact ⟨((F1.sub (by simp [LH])).tr (F2.sub (by simp [LH]))).tr F, a⟩
theorem c_all_2 (hd : Days dy J ns) (hT : twT J ns tw T) : ∀ mm fu k I, k + mm = C → mm < fu →
    cH I P z J ns tw dy C pf kd hs cd len nf f1 f2 f3 → cNW I P z T nw n w1 wt w3 →
    (∀ c, c < k → ∀ j, j < 5 → I 16 z c j = -1 ∧ I 18 z c j = -1 ∧ I 20 z c j = -1) →
    wp (f_X1_hearAll_2 P z fu I (nI k)) (fun I' => Fr (LH z (P 1 z 0 0)) I I' ∧ hS I' z C J (Hp tw dy pf nf f1 f2 f3) tw dy (Gv (Hp tw dy pf nf f1 f2 f3) tw dy cd len pf hs kd J ns) ns ∧
      ∀ c, c < C → I' 21 z 0 c = bs (rch (Hp tw dy pf nf f1 f2 f3) nw J ns tw dy n w1 wt w3 c) 0 J 0) := by
  intro mm
  induction mm with
  | zero =>
    intro fu k I hk hf h h2 h3
    obtain ⟨g, rfl⟩ := Nat.exists_eq_succ_of_ne_zero (by omega : fu ≠ 0)
    have ⟨hcJ, hb, ⟨hC, hC6, hpf⟩, _⟩ := h
    have ⟨hP, hJ, hJ5, hns, hst⟩ := hcJ
    have hk' : k = C := by omega
    subst hk'
    unfold f_X1_hearAll_2
    rw [hC]
    refine wp_gd (dlt hP) (wp_pos (by rw [nI_leI (by omega) (by omega)]; omega) ?_)
    refine wp_bind (c_fill (by rw [show cL 25 z = 5 from rfl]; omega) _) ?_
    rintro I2 ⟨F2, h5⟩
    refine wp_mono (c_all_59 hd hT 35 FU 0 I2 (fun _ => 0) (by omega) (by unfold FU; omega) ?_ (cH_fr h F2 (by simp)) (cNW_fr h2 F2 (by simp)) ?_ ?_) ?_
    · have := sm_le (ns := ns) (m := fun _ => 0) (J := J) (fun j hj => (hns j hj).2); omega
    · intro c hc j hj
      obtain ⟨a, b, d⟩ := h3 c hc j (by omega)
      refine ⟨?_, ?_, ?_⟩
      · rw [F2.g (c := 16) (z := z) (by simp), a]; simp [sdA]
      · rw [F2.g (c := 18) (z := z) (by simp), b]; simp [stA]
      · rw [F2.g (c := 20) (z := z) (by simp), d]; simp [sgA]
    · intro j hj
      rw [h5, if_pos ⟨rfl, by rw [show cL 25 z = 5 from rfl]; omega⟩]
      exact ⟨rfl, Nat.zero_le _⟩
    · rintro I' ⟨F, a⟩
      exact ⟨(F2.sub (by simp [LH])).tr F, a⟩
  | succ mm ih =>
    intro fu k I hk hf h h2 h3
    obtain ⟨g, rfl⟩ := Nat.exists_eq_succ_of_ne_zero (by omega : fu ≠ 0)
    have ⟨hcJ, hb, ⟨hC, hC6, hpf⟩, _⟩ := h
    have ⟨hP, hJ, hJ5, hns, hst⟩ := hcJ
    unfold f_X1_hearAll_2
    rw [hC]
    refine wp_gd (dlt hP) (wp_neg (by rw [nI_leI (by omega) (by omega)]; omega) (wp_gd (inb_n (by omega)) ?_))
    rw [nI_clamp (by omega), nI_1]
    refine wp_bind (c_fill (by rw [show cL 16 z = 5 from rfl]; omega) _) ?_
    rintro I2 ⟨F2, a2⟩
    refine wp_bind (c_fill (by rw [show cL 18 z = 5 from rfl]; omega) _) ?_
    rintro I3 ⟨F3, a3⟩
    refine wp_bind (c_fill (by rw [show cL 20 z = 5 from rfl]; omega) _) ?_
    rintro I4 ⟨F4, a4⟩
    refine wp_mono (ih g (k + 1) I4 (by omega) (by omega) (cH_fr (cH_fr (cH_fr h F2 (by simp)) F3 (by simp)) F4 (by simp)) (cNW_fr (cNW_fr (cNW_fr h2 F2 (by simp)) F3 (by simp)) F4 (by simp)) ?_) ?_
    · intro c hc j hj
      rw [a4, F4.g (c := 16) (z := z) (by simp), F4.g (c := 18) (z := z) (by simp), a3, F3.g (c := 16) (z := z) (by simp), a2, F3.g (c := 20) (z := z) (by simp), F2.g (c := 18) (z := z) (by simp), F2.g (c := 20) (z := z) (by simp)]
      rw [show cL 16 z = 5 from rfl, show cL 18 z = 5 from rfl, show cL 20 z = 5 from rfl]
      by_cases e : c = k
      · rw [if_pos ⟨e, hj⟩, if_pos ⟨e, hj⟩, if_pos ⟨e, hj⟩]; exact ⟨rfl, rfl, rfl⟩
      · rw [if_neg (fun q => e q.1), if_neg (fun q => e q.1), if_neg (fun q => e q.1)]; exact h3 c (by omega) j hj
    · rintro I' ⟨F, a⟩
      exact ⟨(((F2.sub (by simp [LH])).tr (F3.sub (by simp [LH]))).tr (F4.sub (by simp [LH]))).tr F, a⟩
theorem c_hearAll {I : Mem} (hd : Days dy J ns) (hT : twT J ns tw T) (h : cH I P z J ns tw dy C pf kd hs cd len nf f1 f2 f3) (h2 : cNW I P z T nw n w1 wt w3) :
    wp (f_X1_hearAll P z I) (fun I' => Fr (LH z (P 1 z 0 0)) I I' ∧ hS I' z C J (Hp tw dy pf nf f1 f2 f3) tw dy (Gv (Hp tw dy pf nf f1 f2 f3) tw dy cd len pf hs kd J ns) ns ∧
      ∀ c, c < C → I' 21 z 0 c = bs (rch (Hp tw dy pf nf f1 f2 f3) nw J ns tw dy n w1 wt w3 c) 0 J 0) := by
  have := h.2.2.1.2.1
  exact c_all_2 hd hT C FU 0 I (by omega) (by unfold FU; omega) h h2 (fun c hc => absurd hc (Nat.not_lt_zero c))
end
