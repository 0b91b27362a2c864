/-! the reference's court: meetings -/
def fldW (n T : Nat) (gt : Nat → Nat) (g2 g3 : Nat → Int32) : Prop := ∀ k, k < n → gt k < T ∧ 0 ≤ (g2 k).toInt ∧ (g2 k).toInt ≤ 114 ∧ (g3 k).toInt ≤ 1000
section
variable {T : Nat} {rd : Nat → Nat → Int32} {gg : Int32} {nw : Nat → Nat → Int32} {n : Nat} {gt : Nat → Nat} {g2 g3 : Nat → Int32} {inns : Int32}
variable {J : Nat} {ns : Nat → Nat} {tw : Nat → Nat → Nat} {dy : Nat → Nat → Int32}
def isM (inns : Int32) (rd : Nat → Nat → Int32) (n : Nat) (gt : Nat → Nat) (g2 g3 : Nat → Int32) (ta tb : Nat) (x : Int32) : Bool :=
  (decide (ta = tb) && bt inns ta) || ex (fun k => decide (g2 k = x) && (wetA rd ta (gt k) (g3 k) && wetA rd tb (gt k) (g3 k))) 0 n
theorem wetA_iff {I : Mem} (h : rN I T rd gg nw) {t w : Nat} (ht : t < T) (hw : w < T) {x : Int32} (hx : x.toInt ≤ 1000) : (x < nv (rd t w)) ↔ wetA rd t w x = false := by
  unfold wetA
  rcases h.2.2.2 t w ht hw with ⟨q1, _⟩ | ⟨q1, q2, _⟩
  · rw [q1, show nv (-1) = nI 100000 from rfl]
    simp only [ne_eq, not_true_eq_false, decide_false, Bool.false_and, iff_true]
    rw [fa_lt, nI_toInt (by omega)]; omega
  · have e := ne_m1 q1
    have e2 : nv (rd t w) = rd t w := if_neg e
    rw [e2]
    simp only [ne_eq, e, not_false_eq_true, decide_true, Bool.true_and, decide_eq_false_iff_not]
    constructor
    · intro h; exact (fa_of_lt h).2.1
    · intro h; exact fa_of_nle h
theorem r_isM_22 {I : Mem} (h : rN I T rd gg nw) (hR : rR I 32 64 n (fun k => nI (gt k)) g2 g3) (hn6 : n ≤ 6) (hg : fldW n T gt g2 g3) {ta tb : Nat} (ha : ta < T) (hb : tb < T) (x : Int32) : ∀ m fu k, k + m = n → m < fu →
    f_X8_isMeeting_22 I fu (nI ta) (nI tb) x (nI k) = some (bI (ex (fun k => decide (g2 k = x) && (wetA rd ta (gt k) (g3 k) && wetA rd tb (gt k) (g3 k))) k m)) := by
  obtain ⟨hn, hr⟩ := hR
  have hT9 := h.1
  intro m
  induction m with
  | zero =>
    intro fu k hk hf
    obtain ⟨g, rfl⟩ := Nat.exists_eq_succ_of_ne_zero (by omega : fu ≠ 0)
    have hk' : n ≤ k := by omega
    simp (disch := omega) [gd, bnd, inb_n, nI_clamp, nI_leI, nI_ltI, nI_eq, nI_1, if_true, if_false, decide_true, ite_true, ite_false, f_X8_isMeeting_22, hn, hk', ex, bI]
  | succ m ih =>
    intro fu k hk hf
    obtain ⟨g, rfl⟩ := Nat.exists_eq_succ_of_ne_zero (by omega : fu ≠ 0)
    obtain ⟨r1, r2, r3⟩ := hr k (by omega)
    obtain ⟨q1, q2, q3, q4⟩ := hg k (by omega)
    have hk' : ¬ n ≤ k := by omega
    have ih' := ih g (k + 1) (by omega) (by omega)
    have x0 : (3 : Int32) * nI k = nI (3 * k) := pk_mul 3 k
    have x2 : nI (3 * k) + (2 : Int32) = nI (3 * k + 2) := nI_add _ 2
    have c1 : (9 : Int32) * nI ta + nI (gt k) = nI (9 * ta + gt k) := idx_n 9 _ _
    have c2 : (9 : Int32) * nI tb + nI (gt k) = nI (9 * tb + gt k) := idx_n 9 _ _
    have e1 := h.2.2.1 ta (gt k) ha q1
    have e2 := h.2.2.1 tb (gt k) hb q1
    have w1 := wetA_iff h ha q1 q4
    have w2 := wetA_iff h hb q1 q4
    simp (disch := omega) only [gd, bnd, inb_n, nI_clamp, nI_leI, nI_ltI, nI_eq, nI_1, if_true, if_false, decide_true, ite_true, ite_false, f_X8_isMeeting_22, f_X8_couple, hn, hk', x0, x2, r1, r2, r3, c1, c2, e1, e2, Option.bind_some, ih', ex, w1, w2]
    by_cases e : g2 k = x
    · cases a1 : wetA rd ta (gt k) (g3 k)
      · simp [e]
      · cases a2 : wetA rd tb (gt k) (g3 k)
        · simp [e]
        · simp [e, bI]
    · simp [e]
theorem r_isM {I : Mem} (h : rN I T rd gg nw) (hR : rR I 32 64 n (fun k => nI (gt k)) g2 g3) (hn6 : n ≤ 6) (hg : fldW n T gt g2 g3) (hin : I 8 0 0 29 = inns) {ta tb : Nat} (ha : ta < T) (hb : tb < T) (x : Int32) :
    f_X8_isMeeting I (nI ta) (nI tb) x = some (bI (isM inns rd n gt g2 g3 ta tb x)) := by
  have hT9 := h.1
  have e19 : f_X8_isMeeting_19 I (nI ta) (nI tb) x = some (bI (ex (fun k => decide (g2 k = x) && (wetA rd ta (gt k) (g3 k) && wetA rd tb (gt k) (g3 k))) 0 n)) := r_isM_22 h hR hn6 hg ha hb x n FU 0 (by omega) (by unfold FU; omega)
  have hs := ssh1 (x := inns) (j := ta) (by omega)
  simp (disch := omega) only [gd, bnd, inb_n, nI_clamp, nI_leI, nI_ltI, nI_eq, nI_1, if_true, if_false, decide_true, ite_true, ite_false, f_X8_isMeeting, hin, hs, e19]
  unfold isM
  by_cases e : ta = tb
  · cases e2 : bt inns ta
    · simp [e, bI]
    · rw [if_pos e, decide_eq_true e]; rfl
  · simp [e]
theorem isM_mtg (hd : Days dy J ns) {a b i : Nat} (ha : a < J) (hi : i < ns a) : mtg inns rd ns tw dy n gt g2 g3 a b (dy a i) =
    (decide (ix (dy b) (ns b) (dy a i) < ns b) && isM inns rd n gt g2 g3 (tw a i) (tw b (ix (dy b) (ns b) (dy a i))) (dy a i)) := by
  have hx := ix_at hd ha hi
  unfold mtg innM isM floM wetJ
  simp only [hx, hi, decide_true, Bool.true_and]
  by_cases e : ix (dy b) (ns b) (dy a i) < ns b
  · simp [e]
  · simp only [e, decide_false, Bool.false_and, Bool.and_false, Bool.false_or]
    apply Bool.eq_false_iff.mpr
    intro q
    rw [ex_iff] at q
    obtain ⟨k, _, _, q⟩ := q
    cases q
def vI (t : Nat) : Int32 := nI t + (-1)
theorem vI_s (t : Nat) : vI (t + 1) = nI t := pk_m1 t
theorem r_meet_45 (hd : Days dy J ns) (hT : twT J ns tw T) (hn6 : n ≤ 6) (hg : fldW n T gt g2 g3) {a b : Nat} (ha : a < J) (hb : b < J) {k14 : Mem → Int32 → Int32 → Option Mem} {Q : Mem → Prop} : ∀ t fu I, t ≤ ns a → t < fu →
    rJ I J ns tw dy → rN I T rd gg nw → rR I 32 64 n (fun k => nI (gt k)) g2 g3 → I 8 0 0 29 = inns →
    I 70 0 0 (5 * a + b) = nv (if ff (fun i => mtg inns rd ns tw dy n gt g2 g3 a b (dy a i)) t (ns a - t) < ns a then dy a (ff (fun i => mtg inns rd ns tw dy n gt g2 g3 a b (dy a i)) t (ns a - t)) else -1) →
    (∀ I', Fr [(70, 0)] I I' → (∀ x, x ≠ 5 * a + b → I' 70 0 0 x = I 70 0 0 x) → I' 70 0 0 (5 * a + b) = nv (mv (mtg inns rd ns tw dy n gt g2 g3 a b)) → wp (k14 I' (nI a) (nI (b + 1))) Q) →
    wp (f_X8_tellMeetings_45 k14 fu I (nI a) (nI b) (vI t)) Q := by
  intro t
  induction t with
  | zero =>
    intro fu I ht hf hJ' hN hR hin h70 hK
    obtain ⟨g, rfl⟩ := Nat.exists_eq_succ_of_ne_zero (by omega : fu ≠ 0)
    unfold f_X8_tellMeetings_45
    rw [nI_1]
    refine wp_pos (by decide) (hK I Fr.rfl (fun _ _ => rfl) ?_)
    rw [h70, mv_first hd ha (p := mtg inns rd ns tw dy n gt g2 g3 a b)]
    · rfl
    · intro x hx
      unfold mtg innM floM wetJ at hx
      by_cases e : ix (dy a) (ns a) x < ns a
      · exact e
      · exfalso
        simp only [e, decide_false, Bool.false_and, Bool.and_false, Bool.false_or] at hx
        rw [ex_iff] at hx
        obtain ⟨k, _, _, q⟩ := hx
        cases q
  | succ t ih =>
    intro fu I ht hf hJ' hN hR hin h70 hK
    obtain ⟨g, rfl⟩ := Nat.exists_eq_succ_of_ne_zero (by omega : fu ≠ 0)
    have ⟨hJ, hJ5, hns, hst⟩ := hJ'
    have hn7 := (hns a ha).2
    obtain ⟨e68, e69, t9⟩ := hst a ha t (by omega)
    have hta := hT a ha t (by omega)
    have hp := isM_mtg (inns := inns) (rd := rd) (tw := tw) (n := n) (gt := gt) (g2 := g2) (g3 := g3) (b := b) hd ha (by omega : t < ns a)
    have hs : ns a - t = (ns a - (t + 1)) + 1 := by omega
    unfold f_X8_tellMeetings_45
    rw [vI_s, n_7, idx_n, n_5, idx_n]
    have hv : nI t + (-1 : Int32) = vI t := rfl
    rw [hv]
    refine wp_neg (nI_pos (by omega)) (wp_gd (inb_n (by omega)) (wp_bnd ?_))
    rw [nI_clamp (by omega), nI_clamp (by omega), e68, e69]
    refine wp_bindE _ (r_townOn hJ' hb _) ?_
    rw [tOn_eq]
    have skip : mtg inns rd ns tw dy n gt g2 g3 a b (dy a t) = false → wp (f_X8_tellMeetings_45 k14 g I (nI a) (nI b) (vI t)) Q := by
      intro q
      refine ih g I (by omega) (by omega) hJ' hN hR hin ?_ hK
      rw [h70, hs, ff, q]; rfl
    by_cases e : ix (dy b) (ns b) (dy a t) < ns b
    · have htb := hT b hb _ e
      have hT9 := hN.1
      rw [if_pos e]
      refine wp_neg (nI_ni (by omega)) ?_
      refine wp_bindE _ (r_isM hN hR hn6 hg hin hta htb _) ?_
      rw [decide_eq_true e, Bool.true_and] at hp
      rw [← hp]
      refine wp_ite (fun q => skip (bI_0.mp q)) (fun q => wp_gd (inb_n (by omega)) (wp_bnd ?_))
      have q' : mtg inns rd ns tw dy n gt g2 g3 a b (dy a t) = true := by
        cases e2 : mtg inns rd ns tw dy n gt g2 g3 a b (dy a t)
        · exact absurd (bI_0.mpr e2) q
        · rfl
      have F : Fr [(70, 0)] I (upd4 I 70 0 0 (5 * a + b) (dy a t)) := Fr.up (by simp)
      refine ih g _ (by omega) (by omega) ?_ (rN_fr hN F (by simp)) ?_ (by rw [u_c (by decide)]; exact hin) ?_ ?_
      · unfold rJ; simp only [u_c (show (50 : Nat) ≠ 70 by decide), u_c (show (55 : Nat) ≠ 70 by decide), u_c (show (68 : Nat) ≠ 70 by decide), u_c (show (69 : Nat) ≠ 70 by decide)]; exact hJ'
      · unfold rR; simp only [u_c (show (8 : Nat) ≠ 70 by decide), u_c (show (64 : Nat) ≠ 70 by decide)]; exact hR
      · rw [u_at, hs, ff, if_pos q', if_pos (by omega), nv, if_neg (ne_m1 (hd.1 a t ha (by omega)).1)]
      · intro I' F' h1 h2
        refine hK I' (F.tr F') (fun x hx => ?_) h2
        rw [h1 x hx, u_if, if_neg (fun q => hx q.2)]
    · rw [if_neg e]
      refine wp_pos rfl (skip ?_)
      rw [hp, decide_eq_false e, Bool.false_and]
theorem r_meet_14 (hd : Days dy J ns) (hns1 : ∀ j, j < J → 1 ≤ ns j) (hT : twT J ns tw T) (hn6 : n ≤ 6) (hg : fldW n T gt g2 g3) {a : Nat} (ha : a < J) {k2 : Mem → Int32 → Option Mem} {Q : Mem → Prop} : ∀ m fu k I, k + m = J → m < fu →
    rJ I J ns tw dy → rN I T rd gg nw → rR I 32 64 n (fun k => nI (gt k)) g2 g3 → I 8 0 0 29 = inns →
    (∀ x y, x < J → y < J → (x < a ∨ (x = a ∧ y < k)) → I 70 0 0 (5 * x + y) = nv (mv (mtg inns rd ns tw dy n gt g2 g3 x y))) →
    (∀ I', Fr [(70, 0)] I I' → (∀ x y, x < J → y < J → x < a + 1 → I' 70 0 0 (5 * x + y) = nv (mv (mtg inns rd ns tw dy n gt g2 g3 x y))) → wp (k2 I' (nI (a + 1))) Q) →
    wp (f_X8_tellMeetings_14 k2 fu I (nI a) (nI k)) Q := by
  intro m
  induction m with
  | zero =>
    intro fu k I hk hf hJ' hN hR hin h70 hK
    obtain ⟨g, rfl⟩ := Nat.exists_eq_succ_of_ne_zero (by omega : fu ≠ 0)
    have ⟨hJ, hJ5, hns, hst⟩ := hJ'
    unfold f_X8_tellMeetings_14
    rw [hJ, nI_1]
    exact wp_pos (by rw [nI_leI (by omega) (by omega)]; omega) (hK I Fr.rfl (fun x y hx hy h => h70 x y hx hy (by omega)))
  | succ m ih =>
    intro fu k I hk hf hJ' hN hR hin h70 hK
    obtain ⟨g, rfl⟩ := Nat.exists_eq_succ_of_ne_zero (by omega : fu ≠ 0)
    have ⟨hJ, hJ5, hns, hst⟩ := hJ'
    obtain ⟨hn, hn7⟩ := hns a ha
    have hn1 := hns1 a ha
    unfold f_X8_tellMeetings_14
    rw [hJ, n_5, idx_n]
    refine wp_neg (by rw [nI_leI (by omega) (by omega)]; omega) (wp_gd (inb_n (by omega)) (wp_bnd (wp_gd (inb_n (by omega)) (wp_bnd ?_))))
    rw [nI_clamp (by omega), nI_clamp (by omega), u_c (show (55 : Nat) ≠ 70 by decide), hn, nI_p1 hn1, show nI (ns a - 1) = vI (ns a) from by rw [← vI_s, show ns a - 1 + 1 = ns a by omega]]
    have F : Fr [(70, 0)] I (upd4 I 70 0 0 (5 * a + k) 100000) := Fr.up (by simp)
    refine r_meet_45 (inns := inns) hd hT hn6 hg ha (by omega : k < J) (ns a) FU _ (Nat.le_refl _) (by unfold FU; omega) ?_ (rN_fr hN F (by simp)) ?_ (by rw [u_c (by decide)]; exact hin) ?_ ?_
    · unfold rJ; simp only [u_c (show (50 : Nat) ≠ 70 by decide), u_c (show (55 : Nat) ≠ 70 by decide), u_c (show (68 : Nat) ≠ 70 by decide), u_c (show (69 : Nat) ≠ 70 by decide)]; exact hJ'
    · unfold rR; simp only [u_c (show (8 : Nat) ≠ 70 by decide), u_c (show (64 : Nat) ≠ 70 by decide)]; exact hR
    · rw [u_at, Nat.sub_self, ff, if_neg (Nat.lt_irrefl _)]; rfl
    · intro I' F' h1 h2
      have F2 := F.tr F'
      refine ih g (k + 1) I' (by omega) (by omega) ?_ (rN_fr hN F2 (by simp)) ?_ (by rw [F2.g (c := 8) (z := 0) (by simp)]; exact hin) ?_ (fun I2 F3 h3 => hK I2 (F2.tr F3) h3)
      · unfold rJ; rw [F2.g (c := 50) (z := 0) (by simp), F2.g (c := 55) (z := 0) (by simp), F2.g (c := 68) (z := 0) (by simp), F2.g (c := 69) (z := 0) (by simp)]; exact hJ'
      · unfold rR; rw [F2.g (c := 8) (z := 0) (by simp), F2.g (c := 64) (z := 0) (by simp)]; exact hR
      · intro x y hx hy h
        by_cases e : x = a ∧ y = k
        · rw [e.1, e.2]; exact h2
        · have ne : 5 * x + y ≠ 5 * a + k := by omega
          rw [h1 _ ne, u_if, if_neg (fun q => ne q.2)]
          exact h70 x y hx hy (by omega)
theorem r_meet_2 (hd : Days dy J ns) (hns1 : ∀ j, j < J → 1 ≤ ns j) (hT : twT J ns tw T) (hn6 : n ≤ 6) (hg : fldW n T gt g2 g3) : ∀ m fu k I, k + m = J → m < fu →
    rJ I J ns tw dy → rN I T rd gg nw → rR I 32 64 n (fun k => nI (gt k)) g2 g3 → I 8 0 0 29 = inns →
    (∀ x y, x < J → y < J → x < k → I 70 0 0 (5 * x + y) = nv (mv (mtg inns rd ns tw dy n gt g2 g3 x y))) →
    wp (f_X8_tellMeetings_2 fu I (nI k)) (fun I' => Fr [(70, 0)] I I' ∧ ∀ x y, x < J → y < J → I' 70 0 0 (5 * x + y) = nv (mv (mtg inns rd ns tw dy n gt g2 g3 x y))) := by
  intro m
  induction m with
  | zero =>
    intro fu k I hk hf hJ' hN hR hin h70
    obtain ⟨g, rfl⟩ := Nat.exists_eq_succ_of_ne_zero (by omega : fu ≠ 0)
    have ⟨hJ, hJ5, hns, hst⟩ := hJ'
    unfold f_X8_tellMeetings_2
    rw [hJ]
    exact wp_pos (by rw [nI_leI (by omega) (by omega)]; omega) (wp_some ⟨Fr.rfl, fun x y hx hy => h70 x y hx hy (by omega)⟩)
  | succ m ih =>
    intro fu k I hk hf hJ' hN hR hin h70
    obtain ⟨g, rfl⟩ := Nat.exists_eq_succ_of_ne_zero (by omega : fu ≠ 0)
    have ⟨hJ, hJ5, hns, hst⟩ := hJ'
    unfold f_X8_tellMeetings_2
    rw [hJ]
    refine wp_neg (by rw [nI_leI (by omega) (by omega)]; omega) ?_
    refine r_meet_14 hd hns1 hT hn6 hg (by omega : k < J) J FU 0 I (by omega) (by unfold FU; omega) hJ' hN hR hin (fun x y hx hy h => h70 x y hx hy (by omega)) ?_
    intro I' F h
    refine wp_mono (ih g (k + 1) I' (by omega) (by omega) ?_ (rN_fr hN F (by simp)) ?_ (by rw [F.g (c := 8) (z := 0) (by simp)]; exact hin) h) ?_
    · unfold rJ; rw [F.g (c := 50) (z := 0) (by simp), F.g (c := 55) (z := 0) (by simp), F.g (c := 68) (z := 0) (by simp), F.g (c := 69) (z := 0) (by simp)]; exact hJ'
    · unfold rR; rw [F.g (c := 8) (z := 0) (by simp), F.g (c := 64) (z := 0) (by simp)]; exact hR
    · rintro r ⟨A, B⟩
      exact ⟨F.tr A, B⟩
theorem r_meet {I : Mem} (hd : Days dy J ns) (hns1 : ∀ j, j < J → 1 ≤ ns j) (hT : twT J ns tw T) (hn6 : n ≤ 6) (hg : fldW n T gt g2 g3)
    (hJ' : rJ I J ns tw dy) (hN : rN I T rd gg nw) (hR : rR I 32 64 n (fun k => nI (gt k)) g2 g3) (hin : I 8 0 0 29 = inns) :
    wp (f_X8_tellMeetings I) (fun I' => Fr [(70, 0)] I I' ∧ ∀ x y, x < J → y < J → I' 70 0 0 (5 * x + y) = nv (mv (mtg inns rd ns tw dy n gt g2 g3 x y))) := by
  have hJ5 := hJ'.2.1
  exact r_meet_2 hd hns1 hT hn6 hg J FU 0 I (by omega) (by unfold FU; omega) hJ' hN hR hin (fun x y _ _ q => absurd q (Nat.not_lt_zero x))
end
