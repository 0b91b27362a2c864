/-! the reference's court: hearing, all days -/
section
variable {J : Nat} {ns : Nat → Nat} {tw : Nat → Nat → Nat} {dy : Nat → Nat → Int32} {C : Nat} {pf : Nat → Nat → Int32} {kd hs : Nat → Int32} {cd : Nat → Nat} {len : Nat} {nf : Nat} {f1 f2 f3 : Nat → Int32}
variable {H : Nat → Nat → Nat → Bool} {G : Nat → Nat → Bool} {m : Nat → Nat}
def LR : List (Nat × Nat) := [(66, 0), (67, 0), (71, 0), (72, 0), (73, 0)]
theorem hR1_same {I : Mem} {c j : Nat} (h : hR1 I H tw dy G c j (m j)) (q : ff (H c j) 0 (m j) < m j ∨ H c j (m j) = false) : hR1 I H tw dy G c j (m j + 1) := by
  obtain ⟨h1, h2⟩ := h
  have b := ff_b (H c j) (m j) 0
  refine ⟨h1.trans ?_, ?_⟩
  · rw [sgA_step]
    split
    · rfl
    · rename_i e
      rw [q.resolve_left e, if_neg (by decide)]; exact if_neg e
  · rw [ff_snoc, Nat.zero_add]
    by_cases e : ff (H c j) 0 (m j) < m j
    · rw [if_pos e]; intro _; exact h2 e
    · rw [if_neg e, q.resolve_left e, if_neg (by decide)]; intro h; omega
theorem r_hear_3 (hd : Days dy J ns) (ho : ∀ j, j < J → m j ≤ ns j) {j : Nat} (hj : j < J) (hi : m j < ns j) (ht9 : tw j (m j) < 9)
    (hfe : isF nf f1 f2 f3 (nI (tw j (m j))) (dy j (m j)) = false)
    (hG : ∀ c, c < C → ¬ ff (Hp tw dy pf nf f1 f2 f3 c j) 0 (m j) < m j → Hp tw dy pf nf f1 f2 f3 c j (m j) = true → vdc cd len pf hs kd c j (tw j (m j)) (dy j (m j)) (bfr (Hp tw dy pf nf f1 f2 f3) dy J c m (dy j (m j))) = G c j) :
    ∀ mm fu k I, k + mm = C → mm < fu → rH I J ns tw dy C pf kd hs cd len nf f1 f2 f3 →
    (∀ c, c < C → ∀ j', j' < J → hR1 I (Hp tw dy pf nf f1 f2 f3) tw dy G c j' (if c < k then inc m j j' else m j')) →
    wp (f_X8_hear_3 fu I (nI j) (nI (tw j (m j))) (dy j (m j)) (nI k)) (fun I' => Fr LR I I' ∧ hR I' C J (Hp tw dy pf nf f1 f2 f3) tw dy G (inc m j)) := by
  intro mm
  induction mm with
  | zero =>
    intro fu k I hk hf h hh
    obtain ⟨g, rfl⟩ := Nat.exists_eq_succ_of_ne_zero (by omega : fu ≠ 0)
    have hC := h.2.1.1
    have hC6 := h.2.1.2.1
    unfold f_X8_hear_3
    rw [hC]
    refine wp_pos (by rw [nI_leI (by omega) (by omega)]; omega) (wp_some ⟨Fr.rfl, ?_⟩)
    intro c hc j' hj'
    have := hh c hc j' hj'
    rwa [if_pos (by omega)] at this
  | succ mm ih =>
    intro fu k I hk hf h hh
    obtain ⟨g, rfl⟩ := Nat.exists_eq_succ_of_ne_zero (by omega : fu ≠ 0)
    have ⟨⟨hJ, hJ5, hns, hst⟩, ⟨hC, hC6, hpf⟩, hK, hW, hF, hF4⟩ := h
    have hkC : k < C := by omega
    have hx := hpf k hkC _ ht9
    have hkj := hh k hkC j hj
    rw [if_neg (Nat.lt_irrefl k)] at hkj
    have nxt : ff (Hp tw dy pf nf f1 f2 f3 k j) 0 (m j) < m j ∨ Hp tw dy pf nf f1 f2 f3 k j (m j) = false →
        wp (f_X8_hear_3 g I (nI j) (nI (tw j (m j))) (dy j (m j)) (nI k + 1)) (fun I' => Fr LR I I' ∧ hR I' C J (Hp tw dy pf nf f1 f2 f3) tw dy G (inc m j)) := by
      intro q
      rw [nI_1]
      refine ih g (k + 1) I (by omega) (by omega) h ?_
      intro c hc j' hj'
      have := hh c hc j' hj'
      by_cases e : c = k
      · subst e
        rw [if_neg (Nat.lt_irrefl c)] at this
        rw [if_pos (Nat.lt_succ_self c)]
        by_cases e2 : j' = j
        · subst e2; rw [inc_at]; exact hR1_same this q
        · rw [inc_ne e2]; exact this
      · by_cases e2 : c < k
        · rw [if_pos (by omega)]; rwa [if_pos e2] at this
        · rw [if_neg (by omega)]; rwa [if_neg e2] at this
    unfold f_X8_hear_3
    rw [hC]
    refine wp_neg (by rw [nI_leI (by omega) (by omega)]; omega) ?_
    refine wp_bindE _ (r_isFeast hF hF4 _ _) ?_
    rw [hfe]
    refine wp_pos rfl (wp_bnd ?_)
    rw [n_5, idx_n, n_9, idx_n]
    refine wp_gd (inb_n (by omega)) ?_
    rw [nI_clamp (by omega), nI_clamp (by omega), hx]
    refine wp_ite (fun q => ?_) (fun q => wp_gd (inb_n (by omega)) (wp_ite (fun q2 => ?_) (fun q2 => ?_)))
    · exact nxt (Or.inr (by unfold Hp; simp [q]))
    · have hnt : ¬ ff (Hp tw dy pf nf f1 f2 f3 k j) 0 (m j) < m j := by
        intro e
        rw [hkj.1, sgA, if_pos e] at q2
        revert q2
        cases G k j <;> decide
      have hHt : Hp tw dy pf nf f1 f2 f3 k j (m j) = true := by unfold Hp; simp [q, hfe]
      have hv := hG k hkC hnt hHt
      refine wp_bind (r_holds (G := G) (m := m) (H := Hp tw dy pf nf f1 f2 f3) h hd ho hkC hj ht9 (fun j' hj' => by
        have := hh k hkC j' hj'
        rwa [if_neg (Nat.lt_irrefl k)] at this) (dy j (m j))) ?_
      rintro ⟨y, I2⟩ ⟨e1, F2'⟩
      have F2 : Fr [(66, 0), (67, 0)] I I2 := F2'
      have e1' : y = bI (G k j) := by rw [← hv]; exact e1
      have h84 : wp (f_X8_hear_84 (f_X8_hear_3 g) I2 (nI j) (nI (tw j (m j))) (dy j (m j)) (nI k) (nI (5 * k + j)) (bI (G k j)) (nI (5 * k + j))) (fun I' => Fr LR I I' ∧ hR I' C J (Hp tw dy pf nf f1 f2 f3) tw dy G (inc m j)) := by
        unfold f_X8_hear_84
        refine wp_gd (inb_n (by omega)) (wp_bnd (wp_gd (inb_n (by omega)) (wp_bnd (wp_bnd ?_))))
        rw [nI_clamp (by omega), nI_1]
        have F3 : Fr LR I2 (upd4 (upd4 (upd4 I2 71 0 0 (5 * k + j) (bI (G k j))) 72 0 0 (5 * k + j) (dy j (m j))) 73 0 0 (5 * k + j) (nI (tw j (m j)))) :=
          ((Fr.up (by simp [LR])).tr (Fr.up (by simp [LR]))).tr (Fr.up (by simp [LR]))
        refine wp_mono (ih g (k + 1) _ (by omega) (by omega) (rH_fr (rH_fr h F2 (by simp)) F3 (by simp [LR])) ?_) ?_
        · intro c hc j' hj'
          have := hh c hc j' hj'
          have e71 : I2 71 = I 71 := F2.gc (by simp)
          have e72 : I2 72 = I 72 := F2.gc (by simp)
          have e73 : I2 73 = I 73 := F2.gc (by simp)
          by_cases e : c = k ∧ j' = j
          · obtain ⟨rfl, rfl⟩ := e
            rw [if_pos (Nat.lt_succ_self c), inc_at]
            have b := ff_b (Hp tw dy pf nf f1 f2 f3 c j') (m j') 0
            have e0 : ff (Hp tw dy pf nf f1 f2 f3 c j') 0 (m j' + 1) = m j' := by
              rw [ff_snoc, Nat.zero_add, if_neg hnt, if_pos hHt]
            refine ⟨?_, ?_⟩
            · rw [u_c (by decide), u_c (by decide), u_at, sgA_step, if_neg hnt, hHt, if_pos rfl]
            · rw [e0]
              intro _
              rw [u_c (by decide), u_at, u_at]; exact ⟨rfl, rfl⟩
          · have ne : ¬ (5 * c + j' = 5 * k + j) := by omega
            have r : hR1 I (Hp tw dy pf nf f1 f2 f3) tw dy G c j' (if c < k + 1 then inc m j j' else m j') := by
              by_cases e2 : c = k
              · subst e2
                rw [if_neg (Nat.lt_irrefl c)] at this
                rw [if_pos (Nat.lt_succ_self c), inc_ne (fun q => e ⟨rfl, q⟩)]; exact this
              · by_cases e3 : c < k
                · rw [if_pos (by omega)]; rwa [if_pos e3] at this
                · rw [if_neg (by omega)]; rwa [if_neg e3] at this
            unfold hR1 at r ⊢
            have ne' : ¬ (0 = 0 ∧ 5 * c + j' = 5 * k + j) := fun q => ne q.2
            rw [u_c (show (71 : Nat) ≠ 73 by decide), u_c (show (71 : Nat) ≠ 72 by decide), u_if, if_neg ne', u_c (show (72 : Nat) ≠ 73 by decide), u_if, if_neg ne', u_c (show (72 : Nat) ≠ 71 by decide), u_if, if_neg ne', u_c (show (73 : Nat) ≠ 72 by decide), u_c (show (73 : Nat) ≠ 71 by decide), e71, e72, e73]
            exact r
        · rintro r ⟨a, b⟩
          exact ⟨((F2.sub (by simp [LR])).tr F3).tr a, b⟩
      have hy : (y, I2).fst = bI (G k j) := e1'
      refine wp_ite (fun q3 => ?_) (fun q3 => ?_)
      · rw [hy] at q3
        have := bI_0.mp q3
        rw [this] at h84; exact h84
      · rw [hy] at q3
        have : G k j = true := by
          cases e : G k j
          · exact absurd (bI_0.mpr e) q3
          · rfl
        rw [this] at h84; exact h84
    · refine nxt (Or.inl ?_)
      by_cases e : ff (Hp tw dy pf nf f1 f2 f3 k j) 0 (m j) < m j
      · exact e
      · exact absurd (hkj.1.trans (if_neg e)) q2
theorem r_hear {I : Mem} (hd : Days dy J ns) (ho : ∀ j, j < J → m j ≤ ns j) {j : Nat} (hj : j < J) (hi : m j < ns j)
    (hmin : ∀ j' i', j' < J → m j' ≤ i' → i' < ns j' → dy j (m j) ≤ dy j' i')
    (h : rH I J ns tw dy C pf kd hs cd len nf f1 f2 f3)
    (hh : hR I C J (Hp tw dy pf nf f1 f2 f3) tw dy (Gv (Hp tw dy pf nf f1 f2 f3) tw dy cd len pf hs kd J ns) m) :
    wp (f_X8_hear I (nI j) (nI (tw j (m j))) (dy j (m j))) (fun I' => Fr LR I I' ∧ hR I' C J (Hp tw dy pf nf f1 f2 f3) tw dy (Gv (Hp tw dy pf nf f1 f2 f3) tw dy cd len pf hs kd J ns) (inc m j)) := by
  have ⟨⟨hJ, hJ5, hns, hst⟩, ⟨hC, hC6, hpf⟩, hK, hW, hF, hF4⟩ := h
  have ht9 := (hst j hj (m j) hi).2.2
  cases hfe : isF nf f1 f2 f3 (nI (tw j (m j))) (dy j (m j))
  · refine r_hear_3 hd ho hj hi ht9 hfe (fun c hc h1 h2 => Gv_ok hd ho hi hmin h1 h2) C FU 0 I (by omega) (by unfold FU; omega) h ?_
    intro c hc j' hj'
    rw [if_neg (Nat.not_lt_zero c)]; exact hh c hc j' hj'
  · have fin : hR I C J (Hp tw dy pf nf f1 f2 f3) tw dy (Gv (Hp tw dy pf nf f1 f2 f3) tw dy cd len pf hs kd J ns) (inc m j) := by
      intro c hc j' hj'
      have := hh c hc j' hj'
      by_cases e : j' = j
      · subst e
        rw [inc_at]
        exact hR1_same this (Or.inr (by unfold Hp; simp [hfe]))
      · rw [inc_ne e]; exact this
    unfold f_X8_hear
    rw [show FU = 1999 + 1 from rfl]
    unfold f_X8_hear_3
    refine wp_ite (fun q => wp_some ⟨Fr.rfl, fin⟩) (fun q => ?_)
    refine wp_bindE _ (r_isFeast hF hF4 _ _) ?_
    rw [hfe]
    exact wp_neg (by decide) (wp_some ⟨Fr.rfl, fin⟩)
/-- how many stops lie before a day -/
def cut (dy : Nat → Nat → Int32) (ns : Nat → Nat) (d j : Nat) : Nat := ff (fun i => decide (nI d ≤ dy j i)) 0 (ns j)
theorem r_tell_39 (hd : Days dy J ns) {d : Nat} (hd114 : d ≤ 114) {k31 : Mem → Int32 → Option (Int32 × Mem)} {Q : Int32 × Mem → Prop} : ∀ mm fu k I, k + mm = J → mm < fu → rH I J ns tw dy C pf kd hs cd len nf f1 f2 f3 →
    hR I C J (Hp tw dy pf nf f1 f2 f3) tw dy (Gv (Hp tw dy pf nf f1 f2 f3) tw dy cd len pf hs kd J ns) (fun j => if j < k then cut dy ns (d + 1) j else cut dy ns d j) →
    (∀ I', Fr LR I I' → hR I' C J (Hp tw dy pf nf f1 f2 f3) tw dy (Gv (Hp tw dy pf nf f1 f2 f3) tw dy cd len pf hs kd J ns) (cut dy ns (d + 1)) → wp (k31 I' (nI (d + 1))) Q) →
    wp (f_X8_tell_39 k31 fu I (nI d) (nI k)) Q := by
  intro mm
  induction mm with
  | zero =>
    intro fu k I hk hf h hh hK
    obtain ⟨g, rfl⟩ := Nat.exists_eq_succ_of_ne_zero (by omega : fu ≠ 0)
    have ⟨⟨hJ, hJ5, hns, hst⟩, _⟩ := h
    unfold f_X8_tell_39
    rw [hJ, nI_1]
    refine wp_pos (by rw [nI_leI (by omega) (by omega)]; omega) (hK I Fr.rfl ?_)
    intro c hc j hj
    have := hh c hc j hj
    simp only [show j < k by omega, if_true] at this
    exact this
  | succ mm ih =>
    intro fu k I hk hf h hh hK
    obtain ⟨g, rfl⟩ := Nat.exists_eq_succ_of_ne_zero (by omega : fu ≠ 0)
    have ⟨⟨hJ, hJ5, hns, hst⟩, _⟩ := h
    have hkJ : k < J := by omega
    have hb := ff_b (fun i => decide (nI d ≤ dy k i)) (ns k) 0
    have hcut : cut dy ns d k = ff (fun i => decide (nI d ≤ dy k i)) 0 (ns k) := rfl
    unfold f_X8_tell_39
    simp only [hJ, nI_1]
    refine wp_neg (by rw [nI_leI (by omega) (by omega)]; omega) ?_
    refine wp_bindE _ (r_townOn h.1 hkJ _) ?_
    rw [tOn_eq]
    by_cases e : ix (dy k) (ns k) (nI d) < ns k
    · -- a stop on that day
      have hday := ix_day e
      have t9 := (hst k hkJ _ e).2.2
      have ec : cut dy ns d k = ix (dy k) (ns k) (nI d) := by
        refine ff_is _ (Nat.zero_le _) (by omega) (by rw [hday]; simp [fa_le]) ?_
        intro i _ hi
        have := hd.2 k i _ hkJ hi e
        rw [hday] at this
        refine decide_eq_false ?_
        rw [fa_le]; omega
      have ec2 : cut dy ns (d + 1) k = ix (dy k) (ns k) (nI d) + 1 := by
        unfold cut
        by_cases e2 : ix (dy k) (ns k) (nI d) + 1 < ns k
        · refine ff_is _ (Nat.zero_le _) (by omega) ?_ ?_
          · have := hd.2 k _ _ hkJ (by omega : ix (dy k) (ns k) (nI d) < ix (dy k) (ns k) (nI d) + 1) e2
            rw [hday, nI_toInt (by omega)] at this
            refine decide_eq_true ?_
            rw [fa_le, nI_toInt (by omega)]; omega
          · intro i _ hi
            refine decide_eq_false ?_
            rw [fa_le, nI_toInt (by omega)]
            by_cases e3 : i = ix (dy k) (ns k) (nI d)
            · rw [e3, hday, nI_toInt (by omega)]; omega
            · have := hd.2 k i _ hkJ (by omega : i < ix (dy k) (ns k) (nI d)) e
              rw [hday, nI_toInt (by omega)] at this; omega
        · have : ix (dy k) (ns k) (nI d) + 1 = 0 + ns k := by omega
          rw [this]
          refine ff_none _ ?_
          intro i _ hi
          refine decide_eq_false ?_
          rw [fa_le, nI_toInt (by omega)]
          by_cases e3 : i = ix (dy k) (ns k) (nI d)
          · rw [e3, hday, nI_toInt (by omega)]; omega
          · have := hd.2 k i _ hkJ (by omega : i < ix (dy k) (ns k) (nI d)) e
            rw [hday, nI_toInt (by omega)] at this; omega
      rw [if_pos e]
      refine wp_neg (nI_ni (by omega)) ?_
      have hmk : (if k < k then cut dy ns (d + 1) k else cut dy ns d k) = ix (dy k) (ns k) (nI d) := by
        rw [if_neg (Nat.lt_irrefl k), ec]
      have cle : ∀ d' j, cut dy ns d' j ≤ ns j := fun d' j => by
        have := ff_b (fun i => decide (nI d' ≤ dy j i)) (ns j) 0
        unfold cut; omega
      have hear := r_hear (m := fun j => if j < k then cut dy ns (d + 1) j else cut dy ns d j) (j := k) hd (fun j hj => by
        show (if j < k then _ else _) ≤ _
        split <;> exact cle _ _) hkJ (by rw [hmk]; exact e) (by
        intro j' i' hj' h1 h2
        rw [hmk, hday]
        have h1' : (if j' < k then cut dy ns (d + 1) j' else cut dy ns d j') ≤ i' := h1
        have hc : ∀ d', d' ≤ 115 → cut dy ns d' j' ≤ i' → (d' : Int) ≤ (dy j' i').toInt := by
          intro d' hd' hc
          have hlt : cut dy ns d' j' < ns j' := by omega
          have y := ff_yes (fun i => decide (nI d' ≤ dy j' i)) (ns j') 0 (by rw [Nat.zero_add]; exact hlt)
          have y' := of_decide_eq_true y
          rw [fa_le, nI_toInt (by omega)] at y'
          have y2 : (d' : Int) ≤ (dy j' (cut dy ns d' j')).toInt := y'
          by_cases e4 : cut dy ns d' j' = i'
          · rw [← e4]; exact y2
          · have := hd.2 j' _ i' hj' (by omega : cut dy ns d' j' < i') h2
            omega
        rw [fa_le, nI_toInt (by omega)]
        split at h1'
        · have := hc (d + 1) (by omega) h1'; omega
        · exact hc d (by omega) h1') h hh
      rw [hmk, hday] at hear
      refine wp_bind hear ?_
      rintro I2 ⟨F2, hh2⟩
      refine ih g (k + 1) I2 (by omega) (by omega) (rH_fr h F2 (by simp [LR])) ?_ (fun I' F' h' => hK I' (F2.tr F') h')
      intro c hc j hj
      have := hh2 c hc j hj
      by_cases e5 : j = k
      · subst e5
        rw [inc_at, hmk] at this
        simp only [Nat.lt_succ_self, if_true, ec2]
        exact this
      · rw [inc_ne e5] at this
        by_cases e6 : j < k
        · simp only [e6, if_true] at this
          simp only [show j < k + 1 by omega, if_true]
          exact this
        · simp only [e6, if_false] at this
          simp only [show ¬ j < k + 1 by omega, if_false]
          exact this
    · have ec2 : cut dy ns (d + 1) k = cut dy ns d k := by
        unfold cut
        refine ff_cong fun i _ hi => ?_
        have hne : dy k i ≠ nI d := by
          intro q
          refine e ?_
          have hb2 := ff_b (fun i => decide (dy k i = nI d)) (ns k) 0
          by_cases q2 : ff (fun i => decide (dy k i = nI d)) 0 (ns k) < ns k
          · exact q2
          · have := ff_no (fun i => decide (dy k i = nI d)) (ns k) 0 i (Nat.zero_le _) (by omega)
            rw [decide_eq_true q] at this; cases this
        apply decide_eq_decide.mpr
        rw [fa_le, fa_le, nI_toInt (by omega), nI_toInt (by omega)]
        rw [Ne, fa_eq, nI_toInt (by omega)] at hne
        omega
      rw [if_neg e]
      refine wp_pos rfl (ih g (k + 1) I (by omega) (by omega) h ?_ hK)
      intro c hc j hj
      have := hh c hc j hj
      by_cases e5 : j = k
      · subst e5
        simp only [Nat.lt_irrefl, if_false] at this
        simp only [Nat.lt_succ_self, if_true, ec2]
        exact this
      · by_cases e6 : j < k
        · simp only [e6, if_true] at this
          simp only [show j < k + 1 by omega, if_true]
          exact this
        · simp only [e6, if_false] at this
          simp only [show ¬ j < k + 1 by omega, if_false]
          exact this
end
