/-! the reference's court: stops, feasts, hearing -/
def rJ (I : Mem) (J : Nat) (ns : Nat → Nat) (tw : Nat → Nat → Nat) (dy : Nat → Nat → Int32) : Prop :=
  I 50 0 0 4 = nI J ∧ J ≤ 5 ∧ (∀ j, j < J → I 55 0 0 j = nI (ns j) ∧ ns j ≤ 7) ∧
  ∀ j, j < J → ∀ i, i < ns j → I 68 0 0 (7 * j + i) = nI (tw j i) ∧ I 69 0 0 (7 * j + i) = dy j i ∧ tw j i < 9
def rR (I : Mem) (f c : Nat) (n : Nat) (a1 a2 a3 : Nat → Int32) : Prop :=
  I 8 0 0 f = nI n ∧ ∀ k, k < n → I c 0 0 (3 * k) = a1 k ∧ I c 0 0 (3 * k + 1) = a2 k ∧ I c 0 0 (3 * k + 2) = a3 k
def rC (I : Mem) (C : Nat) (pf : Nat → Nat → Int32) : Prop := I 50 0 0 5 = nI C ∧ C ≤ 6 ∧ ∀ c, c < C → ∀ t, t < 9 → I 57 0 0 (9 * c + t) = pf c t
def rK (I : Mem) (J : Nat) (kd hs : Nat → Int32) : Prop := ∀ j, j < J → I 52 0 0 j = kd j ∧ I 54 0 0 j = hs j
def rW (I : Mem) (cd : Nat → Nat) (len : Nat) : Prop := I 50 0 0 6 = nI len ∧ (∀ k, k < len → I 58 0 0 k = rs (cd k)) ∧ vld cd len
def rH (I : Mem) (J : Nat) (ns : Nat → Nat) (tw : Nat → Nat → Nat) (dy : Nat → Nat → Int32) (C : Nat) (pf : Nat → Nat → Int32) (kd hs : Nat → Int32) (cd : Nat → Nat) (len : Nat) (nf : Nat) (f1 f2 f3 : Nat → Int32) : Prop :=
  rJ I J ns tw dy ∧ rC I C pf ∧ rK I J kd hs ∧ rW I cd len ∧ rR I 31 63 nf f1 f2 f3 ∧ nf ≤ 4
def hR1 (I : Mem) (H : Nat → Nat → Nat → Bool) (tw : Nat → Nat → Nat) (dy : Nat → Nat → Int32) (G : Nat → Nat → Bool) (c j n : Nat) : Prop :=
  I 71 0 0 (5 * c + j) = sgA H G c j n ∧ (ff (H c j) 0 n < n → I 72 0 0 (5 * c + j) = dy j (ff (H c j) 0 n) ∧ I 73 0 0 (5 * c + j) = nI (tw j (ff (H c j) 0 n)))
def hR (I : Mem) (C J : Nat) (H : Nat → Nat → Nat → Bool) (tw : Nat → Nat → Nat) (dy : Nat → Nat → Int32) (G : Nat → Nat → Bool) (m : Nat → Nat) : Prop :=
  ∀ c, c < C → ∀ j, j < J → hR1 I H tw dy G c j (m j)
section
variable {J : Nat} {ns : Nat → Nat} {tw : Nat → Nat → Nat} {dy : Nat → Nat → Int32} {C : Nat} {pf : Nat → Nat → Int32} {kd hs : Nat → Int32} {cd : Nat → Nat} {len : Nat} {nf : Nat} {f1 f2 f3 : Nat → Int32}
variable {H : Nat → Nat → Nat → Bool} {G : Nat → Nat → Bool} {m : Nat → Nat}
theorem rH_fr {I I' : Mem} {S : List (Nat × Nat)} (h : rH I J ns tw dy C pf kd hs cd len nf f1 f2 f3) (F : Fr S I I') (hs' : ∀ c, c ∈ [8, 50, 52, 54, 55, 57, 58, 63, 68, 69] → ¬ (c, 0) ∈ S) : rH I' J ns tw dy C pf kd hs cd len nf f1 f2 f3 := by
  unfold rH rJ rC rK rW rR at *
  rw [F.g (hs' 8 (by decide)), F.g (hs' 50 (by decide)), F.g (hs' 52 (by decide)), F.g (hs' 54 (by decide)), F.g (hs' 55 (by decide)), F.g (hs' 57 (by decide)), F.g (hs' 58 (by decide)), F.g (hs' 63 (by decide)), F.g (hs' 68 (by decide)), F.g (hs' 69 (by decide))]
  exact h
theorem hR_fr {I I' : Mem} {S : List (Nat × Nat)} (h : hR I C J H tw dy G m) (F : Fr S I I') (hs' : ∀ c, c ∈ [71, 72, 73] → ¬ (c, 0) ∈ S) : hR I' C J H tw dy G m := by
  unfold hR hR1 at *
  rw [F.g (hs' 71 (by decide)), F.g (hs' 72 (by decide)), F.g (hs' 73 (by decide))]
  exact h
theorem r_townOn_2 {I : Mem} (h : rJ I J ns tw dy) {j : Nat} (hj : j < J) (v : Int32) : ∀ m fu k, k + m = ns j → m < fu →
    f_X8_townOn_2 I fu (nI j) v (nI k) = some (let i := ff (fun i => decide (dy j i = v)) k m; if i < ns j then nI (tw j i) else -1) := by
  obtain ⟨hJ, hJ5, hns, hst⟩ := h
  obtain ⟨hn, hn7⟩ := hns j hj
  intro m
  induction m with
  | zero =>
    intro fu k hk hf
    obtain ⟨g, rfl⟩ := Nat.exists_eq_succ_of_ne_zero (by omega : fu ≠ 0)
    have hk' : k = ns j := by omega
    simp (disch := omega) [gd, bnd, inb_n, nI_clamp, nI_leI, nI_ltI, nI_eq, nI_1, if_true, if_false, decide_true, ite_true, ite_false, f_X8_townOn_2, hn, ff, hk']
  | succ m ih =>
    intro fu k hk hf
    obtain ⟨g, rfl⟩ := Nat.exists_eq_succ_of_ne_zero (by omega : fu ≠ 0)
    obtain ⟨ht, hd, ht9⟩ := hst j hj k (by omega)
    have hk' : ¬ ns j ≤ k := by omega
    have hk2 : k < ns j := by omega
    have ih' := ih g (k + 1) (by omega) (by omega)
    simp (disch := omega) only [gd, bnd, inb_n, nI_clamp, nI_leI, nI_ltI, nI_eq, nI_1, if_true, if_false, decide_true, ite_true, ite_false, f_X8_townOn_2, hn, hk', n_7, idx_n, ht, hd, ih', ff]
    by_cases e : dy j k = v
    · simp [e, hk2]
    · simp [e]
theorem r_townOn {I : Mem} (h : rJ I J ns tw dy) {j : Nat} (hj : j < J) (v : Int32) : f_X8_townOn I (nI j) v = some (tOn (ns j) (tw j) (dy j) v) := by
  have h7 := (h.2.2.1 j hj).2
  exact r_townOn_2 h hj v (ns j) FU 0 (by omega) (by unfold FU; omega)
theorem r_isFeast_2 {I : Mem} (h : rR I 31 63 nf f1 f2 f3) (h4 : nf ≤ 4) (t d : Int32) : ∀ m fu k, k + m = nf → m < fu →
    f_X8_isFeast_2 I fu t d (nI k) = some (bI (ex (fun k => decide (f1 k = t) && decide (f2 k ≤ d) && decide (d ≤ f3 k)) k m)) := by
  obtain ⟨hn, hr⟩ := h
  intro m
  induction m with
  | zero =>
    intro fu k hk hf
    obtain ⟨g, rfl⟩ := Nat.exists_eq_succ_of_ne_zero (by omega : fu ≠ 0)
    have hk' : k = nf := by omega
    simp (disch := omega) [gd, bnd, inb_n, nI_clamp, nI_leI, nI_ltI, nI_eq, nI_1, if_true, if_false, decide_true, ite_true, ite_false, f_X8_isFeast_2, hn, hk', ex, bI]
  | succ m ih =>
    intro fu k hk hf
    obtain ⟨g, rfl⟩ := Nat.exists_eq_succ_of_ne_zero (by omega : fu ≠ 0)
    obtain ⟨r1, r2, r3⟩ := hr k (by omega)
    have hk' : ¬ nf ≤ k := by omega
    have ih' := ih g (k + 1) (by omega) (by omega)
    have x0 : (3 : Int32) * nI k = nI (3 * k) := pk_mul 3 k
    have x2 : nI (3 * k) + (2 : Int32) = nI (3 * k + 2) := nI_add _ 2
    simp (disch := omega) only [gd, bnd, inb_n, nI_clamp, nI_leI, nI_ltI, nI_eq, nI_1, if_true, if_false, decide_true, ite_true, ite_false, f_X8_isFeast_2, hn, hk', x0, x2, r1, r2, r3, ih', ex]
    by_cases e : f1 k = t
    · by_cases e2 : d < f2 k
      · have : ¬ f2 k ≤ d := (fa_of_lt e2).2.1
        simp [e, e2, this]
      · have q2 := fa_of_nlt e2
        by_cases e3 : f3 k < d
        · have : ¬ d ≤ f3 k := (fa_of_lt e3).2.1
          simp [e, e2, e3, this]
        · have q3 := fa_of_nlt e3
          simp [e, e2, e3, q2, q3, bI]
    · simp [e]
theorem r_isFeast {I : Mem} (h : rR I 31 63 nf f1 f2 f3) (h4 : nf ≤ 4) (t d : Int32) : f_X8_isFeast I t d = some (bI (isF nf f1 f2 f3 t d)) :=
  r_isFeast_2 h h4 t d nf FU 0 (by omega) (by unfold FU; omega)
theorem r_ahead_5 {I : Mem} (hJ : I 50 0 0 4 = nI J) (hJ5 : J ≤ 5) (hd : Days dy J ns) (ho : ∀ j, j < J → m j ≤ ns j) {c : Nat} (hc : c < 6) (hs : ∀ j, j < J → hR1 I H tw dy G c j (m j)) (d : Int32) : ∀ mm fu k a, k + mm = J → mm < fu →
    f_X8_saidAhead_5 I fu (nI c) d (nI a) (nI k) = some (nI (a + cn (fun j => decide (sdA H dy c j (m j) ≠ -1) && decide (sdA H dy c j (m j) < d)) k mm)) := by
  intro mm
  induction mm with
  | zero =>
    intro fu k a hk hf
    obtain ⟨g, rfl⟩ := Nat.exists_eq_succ_of_ne_zero (by omega : fu ≠ 0)
    have hk' : k = J := by omega
    simp (disch := omega) [gd, bnd, inb_n, nI_clamp, nI_leI, nI_ltI, nI_eq, nI_1, if_true, if_false, decide_true, ite_true, ite_false, f_X8_saidAhead_5, hJ, hk', cn]
  | succ mm ih =>
    intro fu k a hk hf
    obtain ⟨g, rfl⟩ := Nat.exists_eq_succ_of_ne_zero (by omega : fu ≠ 0)
    have hk' : ¬ J ≤ k := by omega
    obtain ⟨s1, s2⟩ := hs k (by omega)
    have ih0 := ih g (k + 1) a (by omega) (by omega)
    have ih1 := ih g (k + 1) (a + 1) (by omega) (by omega)
    have z0 : nI a + (0 : Int32) = nI a := nI_add a 0
    simp (disch := omega) only [gd, bnd, inb_n, nI_clamp, nI_leI, nI_ltI, nI_eq, nI_1, if_true, if_false, decide_true, ite_true, ite_false, f_X8_saidAhead_5, hJ, hk', n_5, idx_n, s1, z0, ih0, ih1, cn]
    have hno := sdA_no (H := H) (c := c) hd (by omega : k < J) (ho k (by omega))
    by_cases e : ff (H c k) 0 (m k) < m k
    · have e1 : sgA H G c k (m k) = bI (G c k) := if_pos e
      have e2 : sdA H dy c k (m k) = dy k (ff (H c k) 0 (m k)) := if_pos e
      have e3 : ¬ bI (G c k) = -1 := by cases G c k <;> decide
      have e4 : ¬ sdA H dy c k (m k) = -1 := fun q => hno.mp q e
      rw [e1, (s2 e).1, ← e2, if_neg e3]
      by_cases e5 : d ≤ sdA H dy c k (m k)
      · have : ¬ sdA H dy c k (m k) < d := fun h => (fa_of_lt h).2.1 e5
        simp [e5, this]
      · have := fa_of_nle e5
        simp [e4, e5, this, Nat.add_assoc]
    · have e1 : sgA H G c k (m k) = -1 := if_neg e
      have e2 := hno.mpr e
      simp [e1, e2]
theorem r_ahead {I : Mem} (hJ : I 50 0 0 4 = nI J) (hJ5 : J ≤ 5) (hd : Days dy J ns) (ho : ∀ j, j < J → m j ≤ ns j) {c : Nat} (hc : c < 6) (hs : ∀ j, j < J → hR1 I H tw dy G c j (m j)) (d : Int32) :
    f_X8_saidAhead I (nI c) d = some (nI (bfr H dy J c m d)) := by
  have := r_ahead_5 hJ hJ5 hd ho hc hs d J FU 0 0 (by omega) (by unfold FU; omega)
  rw [Nat.zero_add] at this
  exact this
theorem r_holds {I : Mem} (h : rH I J ns tw dy C pf kd hs cd len nf f1 f2 f3) (hd : Days dy J ns) (ho : ∀ j, j < J → m j ≤ ns j) {c j t : Nat} (hc : c < C) (hj : j < J) (ht : t < 9) (hs' : ∀ j, j < J → hR1 I H tw dy G c j (m j)) (d : Int32) :
    wp (f_X8_holds I (nI c) (nI j) (nI t) d) (fun r => r.1 = bI (vdc cd len pf hs kd c j t d (bfr H dy J c m d)) ∧ Fr [(66, 0), (67, 0)] I r.2) := by
  have ⟨⟨hJ, hJ5, hns, hst⟩, ⟨hC, hC6, hpf⟩, hK, ⟨hW1, hW2, hW3⟩, hF, hF4⟩ := h
  have hl6 := hW3.1
  have h115 : ∀ (I' : Mem) (x w : Bool), wp (f_X8_holds_115 I' (bI w) (bI x)) (fun r => r.1 = bI (x != w) ∧ r.2 = I') := by
    intro I' x w
    unfold f_X8_holds_115
    cases x <;> cases w <;> simp [bI] <;> exact wp_some ⟨rfl, rfl⟩
  have h98 : ∀ (I' : Mem) (x : Bool), I' 52 0 0 j = kd j → wp (f_X8_holds_98 I' (nI j) (bI x)) (fun r => r.1 = bI (x != decide (kd j = 2)) ∧ r.2 = I') := by
    intro I' x e
    unfold f_X8_holds_98
    refine wp_gd (inb_n (by omega)) ?_
    rw [nI_clamp (by omega), e]
    refine wp_ite (fun q => ?_) (fun q => ?_)
    · have := h115 I' x true
      rw [decide_eq_true q]; exact this
    · have := h115 I' x false
      rw [decide_eq_false q]; exact this
  have key : ∀ x : Bool, (len = 0 → x = !decide (pf c t ≤ 4)) → wp (f_X8_holds_24 I (nI c) (nI j) (nI t) d (pf c t) (bI x)) (fun r => r.1 = bI (vdc cd len pf hs kd c j t d (bfr H dy J c m d)) ∧ Fr [(66, 0), (67, 0)] I r.2) := by
    intro x hx
    unfold f_X8_holds_24
    rw [hW1, n_0]
    refine wp_ite (fun q => ?_) (fun q => ?_)
    · rw [nI_leI (by omega) (by omega)] at q
      refine wp_mono (h98 I x (hK j hj).1) ?_
      rintro r ⟨r1, r2⟩
      refine ⟨?_, by rw [r2]; exact Fr.rfl⟩
      rw [r1, hx (by omega)]
      unfold vdc lawv
      rw [if_pos (by omega : len = 0)]
      by_cases q2 : pf c t ≤ 4
      · simp [q2]
      · simp [q2]
    · rw [nI_leI (by omega) (by omega)] at q
      refine wp_bnd (wp_gd (inb_n (by omega)) (wp_bnd (wp_bnd (wp_bnd ?_))))
      rw [nI_clamp (by omega), u_c (show (54 : Nat) ≠ 66 by decide), (hK j hj).2]
      have u : ∀ (I : Mem) (i : Nat) (v : Int32), Fr [(66, 0), (67, 0)] I (upd4 I 66 0 0 i v) := fun I i v => Fr.up (by simp)
      have F4 := (((u I 0 (pf c t)).tr (u _ 1 (hs j))).tr (u _ 2 d)).tr (u _ 3 (nI t))
      have h4 := rH_fr h F4 (by simp)
      have hs4 : ∀ j, j < J → hR1 (upd4 (upd4 (upd4 (upd4 I 66 0 0 0 (pf c t)) 66 0 0 1 (hs j)) 66 0 0 2 d) 66 0 0 3 (nI t)) H tw dy G c j (m j) := by
        intro j' hj'
        have := hs' j' hj'
        unfold hR1 at *
        simp only [u_c (show (71 : Nat) ≠ 66 by decide), u_c (show (72 : Nat) ≠ 66 by decide), u_c (show (73 : Nat) ≠ 66 by decide)]
        exact this
      refine wp_bindE _ (r_ahead (by simp only [u_c (show (50 : Nat) ≠ 66 by decide)]; exact hJ) hJ5 hd ho (by omega) (fun j' hj' => by
        have := hs' j' hj'
        unfold hR1 at *
        simp only [u_c (show (71 : Nat) ≠ 66 by decide), u_c (show (72 : Nat) ≠ 66 by decide), u_c (show (73 : Nat) ≠ 66 by decide)]
        exact this) d) (wp_bnd ?_)
      have F5 := F4.tr (u _ 4 (nI (bfr H dy J c m d)))
      refine wp_bind (R := fun r => r.1 = lawv cd len (pf c t) (hs j) d (nI t) (nI (bfr H dy J c m d)) ∧ Fr [(66, 0), (67, 0)] I r.2) ?_ ?_
      · unfold f_X8_valueNow
        refine wp_mono (r_valueNow_4 (va := vals (pf c t) (hs j) d (nI t) (nI (bfr H dy J c m d))) hW3 (by omega) len FU 0 _ (by omega) (by unfold FU; omega) ?_ ?_ ?_ ?_) ?_
        · simp only [u_c (show (50 : Nat) ≠ 66 by decide)]; exact hW1
        · simp only [u_c (show (58 : Nat) ≠ 66 by decide)]; exact hW2
        · intro v hv5
          have : v = 0 ∨ v = 1 ∨ v = 2 ∨ v = 3 ∨ v = 4 := by omega
          rcases this with rfl | rfl | rfl | rfl | rfl <;> simp [u_if, vals]
        · intro i hi; simp [hg] at hi
        · rintro r ⟨a, b⟩
          refine ⟨?_, F5.tr (b.sub (by simp))⟩
          rw [a]; unfold lawv; rw [if_neg (by omega)]
      · rintro ⟨y, I6⟩ ⟨e1, F6'⟩
        have F6 : Fr [(66, 0), (67, 0)] I I6 := F6'
        have e52 : I6 52 0 0 j = kd j := by rw [F6.g (c := 52) (z := 0) (by simp)]; exact (hK j hj).1
        have e1' : y = lawv cd len (pf c t) (hs j) d (nI t) (nI (bfr H dy J c m d)) := e1
        have fin : ∀ x : Bool, x = decide (0 < y) → wp (f_X8_holds_96 I6 (nI j) (bI x)) (fun r => r.1 = bI (vdc cd len pf hs kd c j t d (bfr H dy J c m d)) ∧ Fr [(66, 0), (67, 0)] I r.2) := by
          intro x hx
          unfold f_X8_holds_96
          refine wp_mono (h98 I6 x e52) ?_
          rintro r ⟨r1, r2⟩
          refine ⟨?_, by rw [r2]; exact F6⟩
          rw [r1, hx, e1']; rfl
        refine wp_ite (fun q3 => fin false ?_) (fun q3 => fin true ?_)
        · have q4 : y ≤ 0 := q3
          have : ¬ 0 < y := fun h => (fa_of_lt h).2.1 q4
          simp [this]
        · have : 0 < y := fa_of_nle q3
          simp [this]
  have e57 := hpf c hc t ht
  unfold f_X8_holds
  rw [n_9, idx_n]
  refine wp_gd (inb_n (by omega)) (wp_bnd ?_)
  rw [nI_clamp (by omega), e57]
  refine wp_ite (fun q => key false (fun _ => by simp [q])) (fun q => key true (fun _ => by simp [q]))
end
