/-! what a court holds once it is settled: a view of it; the class's queries over it -/
def vS (I : Mem) (z C J : Nat) (tl : Nat → Nat → Bool) (sd st : Nat → Nat → Int32) (gv rc : Nat → Nat → Bool) (mt : Nat → Nat → Int32) : Prop :=
  (∀ c, c < C → ∀ j, j < J → I 16 z c j = sd c j ∧ I 18 z c j = st c j ∧ I 20 z c j = (if tl c j then bI (gv c j) else -1)) ∧
  (∀ c, c < C → I 21 z 0 c = bs (rc c) 0 J 0) ∧ ∀ a b, a < J → b < J → a ≠ b → I 23 z a b = mt a b
def gjv (tl gv rc : Nat → Nat → Bool) (more df : Int32) (c j : Nat) : Bool := (tl c j && gv c j) && !((rc c j || bt more j) && !bt df j)
def trv (J : Nat) (tl : Nat → Nat → Bool) (sd st : Nat → Nat → Int32) (gv rc : Nat → Nat → Bool) (mt : Nat → Nat → Int32) (more df : Int32) (c : Nat) : Int32 × Int32 :=
  tri J (gjv tl gv rc more df c) (st c) (sd c) mt
theorem vS_fr {I I' : Mem} {S : List (Nat × Nat)} {z C J : Nat} {tl : Nat → Nat → Bool} {sd st : Nat → Nat → Int32} {gv rc : Nat → Nat → Bool} {mt : Nat → Nat → Int32} (h : vS I z C J tl sd st gv rc mt) (F : Fr S I I') (hs' : ∀ c, c ∈ [16, 18, 20, 21, 23] → ¬ (c, z) ∈ S) : vS I' z C J tl sd st gv rc mt := by
  unfold vS at *
  rw [F.g (hs' 16 (by decide)), F.g (hs' 18 (by decide)), F.g (hs' 20 (by decide)), F.g (hs' 21 (by decide)), F.g (hs' 23 (by decide))]
  exact h
theorem le_tr {a b c : Int32} (h : a ≤ b) (h2 : b ≤ c) : a ≤ c := by rw [fa_le] at *; omega
theorem jmax_p (a b : Int32) : a ≤ jmax a b ∧ b ≤ jmax a b ∧ (jmax a b = a ∨ jmax a b = b) := by
  unfold jmax
  split
  · rename_i q2
    exact ⟨(fa_of_lt q2).1, by rw [fa_le]; omega, Or.inr rfl⟩
  · rename_i q2
    exact ⟨by rw [fa_le]; omega, fa_of_nlt q2, Or.inl rfl⟩
section
variable {ok ok' : Nat → Nat → Nat → Bool} {dd : Nat → Nat → Nat → Int32} {J : Nat}
theorem tr3_cong (h : ∀ a b c, a < b → b < c → c < J → ok a b c = ok' a b c) {a b : Nat} (hab : a < b) : ∀ m k s, k + m = J → b < k → tr3 ok dd a b k m s = tr3 ok' dd a b k m s
  | 0, _, _, _, _ => rfl
  | m + 1, k, s, hk, hb => by
    unfold tr3
    rw [tr3_cong h hab m (k + 1) _ (by omega) (by omega)]
    unfold stp
    rw [h a b k hab hb (by omega)]
theorem tr2_cong (h : ∀ a b c, a < b → b < c → c < J → ok a b c = ok' a b c) {a : Nat} : ∀ m k s, k + m = J → a < k → tr2 ok dd a k m s = tr2 ok' dd a k m s
  | 0, _, _, _, _ => rfl
  | m + 1, k, s, hk, hb => by
    unfold tr2
    rw [tr2_cong h m (k + 1) _ (by omega) (by omega), tr3_cong h hb m (k + 1) s (by omega) (by omega)]
theorem tr1_cong (h : ∀ a b c, a < b → b < c → c < J → ok a b c = ok' a b c) : ∀ m k s, k + m = J → tr1 ok dd k m s = tr1 ok' dd k m s
  | 0, _, _, _ => rfl
  | m + 1, k, s, hk => by
    unfold tr1
    rw [tr1_cong h m (k + 1) _ (by omega), tr2_cong h m (k + 1) s (by omega) (by omega)]
def trI (J : Nat) (dd : Nat → Nat → Nat → Int32) (ok : Nat → Nat → Nat → Bool) (s : Int32 × Int32) : Prop := s = (0, -1) ∨ ∃ a b c, a < b ∧ b < c ∧ c < J ∧ ok a b c = true ∧ s = (b3 a b c, dd a b c)
theorem stp_inv {a b c : Nat} (hab : a < b) (hbc : b < c) (hc : c < J) {s : Int32 × Int32} (h : trI J dd ok s) : trI J dd ok (stp ok dd a b c s) := by
  unfold stp
  split
  · rename_i q
    rw [Bool.and_eq_true] at q
    exact Or.inr ⟨a, b, c, hab, hbc, hc, q.1, rfl⟩
  · exact h
theorem tr3_inv {a b : Nat} (hab : a < b) : ∀ m k s, k + m = J → b < k → trI J dd ok s → trI J dd ok (tr3 ok dd a b k m s)
  | 0, _, _, _, _, h => h
  | m + 1, k, s, hk, hb, h => tr3_inv hab m (k + 1) _ (by omega) (by omega) (stp_inv hab hb (by omega) h)
theorem tr2_inv {a : Nat} : ∀ m k s, k + m = J → a < k → trI J dd ok s → trI J dd ok (tr2 ok dd a k m s)
  | 0, _, _, _, _, h => h
  | m + 1, k, s, hk, hb, h => tr2_inv m (k + 1) _ (by omega) (by omega) (tr3_inv hb m (k + 1) s (by omega) (by omega) h)
theorem tr1_inv : ∀ m k s, k + m = J → trI J dd ok s → trI J dd ok (tr1 ok dd k m s)
  | 0, _, _, _, h => h
  | m + 1, k, s, hk, h => tr1_inv m (k + 1) _ (by omega) (tr2_inv m (k + 1) s (by omega) (by omega) h)
end
theorem tri_inv (J : Nat) (gj : Nat → Bool) (st sd : Nat → Int32) (mt : Nat → Nat → Int32) : trI J (d3 sd) (ok3 gj st sd mt) (tri J gj st sd mt) := tr1_inv J 0 _ (by omega) (Or.inl rfl)
section
variable {I : Mem} {P : PMem} {z J : Nat} {ns : Nat → Nat} {tw : Nat → Nat → Nat} {dy : Nat → Nat → Int32}
variable {C : Nat} {tl : Nat → Nat → Bool} {sd st : Nat → Nat → Int32} {gv rc : Nat → Nat → Bool} {mt : Nat → Nat → Int32}
theorem c_who_4 (h : cJ I P z J ns tw dy) (hv : vS I z C J tl sd st gv rc mt) (hC : C ≤ 6) {c : Nat} (hc : c < C) : ∀ m fu k a, k + m = J → m < fu →
    f_X1_whoSaidGuilty_4 I P z fu (nI c) a (nI k) = some (bs (fun j => tl c j && gv c j) k m a) := by
  have ⟨hP, hJ, hJ5, hns, hst⟩ := h
  intro m
  induction m with
  | zero =>
    intro fu k a hk hf
    obtain ⟨g, rfl⟩ := Nat.exists_eq_succ_of_ne_zero (by omega : fu ≠ 0)
    have hk' : J ≤ k := by omega
    simp (disch := omega) only [gd, bnd, inb_n, nI_clamp, nI_leI, nI_ltI, nI_eq, nI_1, if_true, if_false, decide_true, ite_true, ite_false, f_X1_whoSaidGuilty_4, hP, hJ, hk', bs]
  | succ m ih =>
    intro fu k a hk hf
    obtain ⟨g, rfl⟩ := Nat.exists_eq_succ_of_ne_zero (by omega : fu ≠ 0)
    have hk' : ¬ J ≤ k := by omega
    have e := (hv.1 c hc k (by omega)).2.2
    have ih0 := ih g (k + 1) a (by omega) (by omega)
    have ih1 := ih g (k + 1) (a ||| jshl 1 (nI k)) (by omega) (by omega)
    simp (disch := omega) only [gd, bnd, inb_n, nI_clamp, nI_leI, nI_ltI, nI_eq, nI_1, if_true, if_false, decide_true, ite_true, ite_false, f_X1_whoSaidGuilty_4, hP, hJ, hk', e, ih0, ih1, bs]
    by_cases e1 : tl c k = true
    · by_cases e2 : gv c k = true
      · simp [e1, e2, bI]
      · simp [e1, e2, bI]
    · simp [e1]
theorem c_trioWith (h : cJ I P z J ns tw dy) (hv : vS I z C J tl sd st gv rc mt) (hC : C ≤ 6) {c : Nat} (hc : c < C) (more df : Int32) :
    f_X1_trioWith I P z (nI c) more df = some (trv J tl sd st gv rc mt more df c).1 := by
  have hJ5 := h.2.2.1
  have hT : cT I z J c (st c) (sd c) mt := ⟨by omega, fun j hj => ⟨(hv.1 c hc j hj).1, (hv.1 c hc j hj).2.1⟩, hv.2.2⟩
  have e1 : f_X1_whoSaidGuilty I P z (nI c) = some (bs (fun j => tl c j && gv c j) 0 J 0) := c_who_4 h hv hC hc J FU 0 0 (by omega) (by unfold FU; omega)
  have e2 := c_trio_35 (w := bs (fun j => tl c j && gv c j) 0 J 0 &&& (((bs (rc c) 0 J 0 ||| more) &&& (df ^^^ -1)) ^^^ -1)) h hT J FU 0 (0, -1) (by omega) (by unfold FU; omega)
  unfold f_X1_trioWith
  rw [gd_t (inb_n (by omega)), bnd_e, nI_clamp (by omega), hv.2.1 c hc, e1, Option.bind_some, bnd_e]
  refine e2.trans ?_
  unfold trv tri
  congr 2
  refine tr1_cong (J := J) ?_ J 0 _ (by omega)
  intro x y w h1 h2 h3
  have k : ∀ j, j < J → bt (bs (fun j => tl c j && gv c j) 0 J 0 &&& (((bs (rc c) 0 J 0 ||| more) &&& (df ^^^ -1)) ^^^ -1)) j = gjv tl gv rc more df c j := by
    intro j hj
    have h32 : j < 32 := by omega
    rw [b_and, bt_not h32, b_and, bt_not h32, b_or, bt_bs _ _ _ _ _ (by omega) h32, bt_bs _ _ _ _ _ (by omega) h32, b_0]
    simp only [Nat.zero_add, Nat.zero_le, decide_true, Bool.true_and, Bool.false_or, hj]
    rfl
  unfold ok3
  simp only [k x (by omega), k y (by omega), k w (by omega)]
theorem c_decide_2 {df : Int32} (hC : C ≤ 6) : ∀ m fu k I, k + m = C → m < fu → cJ I P z J ns tw dy → vS I z C J tl sd st gv rc mt → I 3 (P 1 z 0 0) 0 13 = nI C → I 1 z 0 2 = df →
    (∀ c, c < k → I 24 z 0 c = (trv J tl sd st gv rc mt 0 df c).1) →
    wp (f_X1_decideAll_2 P z fu I (nI k)) (fun I' => Fr [(24, z)] I I' ∧ ∀ c, c < C → I' 24 z 0 c = (trv J tl sd st gv rc mt 0 df c).1) := by
  intro m
  induction m with
  | zero =>
    intro fu k I hk hf h hv h13 hdf hh
    obtain ⟨g, rfl⟩ := Nat.exists_eq_succ_of_ne_zero (by omega : fu ≠ 0)
    have hk' : k = C := by omega
    subst hk'
    unfold f_X1_decideAll_2
    rw [h13]
    exact wp_gd (dlt h.1) (wp_pos (by rw [nI_leI (by omega) (by omega)]; omega) (wp_some ⟨Fr.rfl, hh⟩))
  | succ m ih =>
    intro fu k I hk hf h hv h13 hdf hh
    obtain ⟨g, rfl⟩ := Nat.exists_eq_succ_of_ne_zero (by omega : fu ≠ 0)
    unfold f_X1_decideAll_2
    rw [h13, hdf]
    refine wp_gd (dlt h.1) (wp_neg (by rw [nI_leI (by omega) (by omega)]; omega) ?_)
    refine wp_bindE _ (c_trioWith h hv hC (by omega) 0 df) (wp_gd (inb_n (by omega)) (wp_bnd ?_))
    rw [nI_clamp (by omega), nI_1]
    have F : Fr [(24, z)] I (upd4 I 24 z 0 k (trv J tl sd st gv rc mt 0 df k).1) := Fr.up (by simp)
    refine wp_mono (ih g (k + 1) _ (by omega) (by omega) (cJ_fr h F (by simp)) (vS_fr hv F (by simp)) (by rw [u_c (by decide)]; exact h13) (by rw [u_c (by decide)]; exact hdf) ?_) ?_
    · intro c hc
      rw [u_if]
      by_cases e : c = k
      · rw [if_pos ⟨rfl, e⟩, e]
      · rw [if_neg (fun q => e q.2)]; exact hh c (by omega)
    · rintro r ⟨A, B⟩
      exact ⟨F.tr A, B⟩
theorem c_decideAll {df : Int32} (hC : C ≤ 6) (h : cJ I P z J ns tw dy) (hv : vS I z C J tl sd st gv rc mt) (h13 : I 3 (P 1 z 0 0) 0 13 = nI C) (hdf : I 1 z 0 2 = df) :
    wp (f_X1_decideAll P z I) (fun I' => Fr [(24, z)] I I' ∧ ∀ c, c < C → I' 24 z 0 c = (trv J tl sd st gv rc mt 0 df c).1) :=
  c_decide_2 hC C FU 0 I (by omega) (by unfold FU; omega) h hv h13 hdf (fun c hc => absurd hc (Nat.not_lt_zero c))
theorem c_many_4 (hP : P 1 z 0 0 < 2) (h13 : I 3 (P 1 z 0 0) 0 13 = nI C) (hC : C ≤ 6) {t : Nat → Int32} (ht : ∀ c, c < C → I 24 z 0 c = t c) : ∀ m fu k a, k + m = C → m < fu →
    f_X1_howManyGuilty_4 I P z fu (nI a) (nI k) = some (nI (a + cn (fun c => !decide (t c = 0)) k m)) := by
  intro m
  induction m with
  | zero =>
    intro fu k a hk hf
    obtain ⟨g, rfl⟩ := Nat.exists_eq_succ_of_ne_zero (by omega : fu ≠ 0)
    have hk' : C ≤ k := by omega
    simp (disch := omega) only [gd, bnd, inb_n, nI_clamp, nI_leI, nI_ltI, nI_eq, nI_1, if_true, if_false, decide_true, ite_true, ite_false, f_X1_howManyGuilty_4, hP, h13, hk', cn, Nat.add_zero]
  | succ m ih =>
    intro fu k a hk hf
    obtain ⟨g, rfl⟩ := Nat.exists_eq_succ_of_ne_zero (by omega : fu ≠ 0)
    have hk' : ¬ C ≤ k := by omega
    have e := ht k (by omega)
    have ih0 := ih g (k + 1) a (by omega) (by omega)
    have ih1 := ih g (k + 1) (a + 1) (by omega) (by omega)
    simp (disch := omega) only [gd, bnd, inb_n, nI_clamp, nI_leI, nI_ltI, nI_eq, nI_1, if_true, if_false, decide_true, ite_true, ite_false, f_X1_howManyGuilty_4, hP, h13, hk', e, ih0, ih1, cn]
    by_cases q : t k = 0
    · simp [q]
    · simp [q, Nat.add_assoc]
theorem c_many (hP : P 1 z 0 0 < 2) (h13 : I 3 (P 1 z 0 0) 0 13 = nI C) (hC : C ≤ 6) {t : Nat → Int32} (ht : ∀ c, c < C → I 24 z 0 c = t c) :
    f_X1_howManyGuilty I P z = some (nI (cn (fun c => !decide (t c = 0)) 0 C)) := by
  have := c_many_4 hP h13 hC ht C FU 0 0 (by omega) (by unfold FU; omega)
  rw [Nat.zero_add] at this
  exact this
/-- the day of three: the greatest of theirs -/
theorem c_tday_4 (h : cJ I P z J ns tw dy) {c : Nat} (hc : c < 6) {w : Int32} (hw : I 24 z 0 c = w) {s : Nat → Int32} (hs : ∀ j, j < J → I 16 z c j = s j) : ∀ m fu k a, k + m = J → m < fu →
    wp (f_X1_trioDay_4 I P z fu (nI c) a (nI k)) (fun r => a ≤ r ∧ (∀ j, k ≤ j → j < J → bt w j = true → s j ≤ r) ∧ (r = a ∨ ∃ j, k ≤ j ∧ j < J ∧ bt w j = true ∧ r = s j)) := by
  have ⟨hP, hJ, hJ5, hns, hst⟩ := h
  intro m
  induction m with
  | zero =>
    intro fu k a hk hf
    obtain ⟨g, rfl⟩ := Nat.exists_eq_succ_of_ne_zero (by omega : fu ≠ 0)
    unfold f_X1_trioDay_4
    rw [hJ]
    refine wp_gd (dlt hP) (wp_pos (by rw [nI_leI (by omega) (by omega)]; omega) (wp_some ⟨by rw [fa_le]; omega, fun j a b => by omega, Or.inl rfl⟩))
  | succ m ih =>
    intro fu k a hk hf
    obtain ⟨g, rfl⟩ := Nat.exists_eq_succ_of_ne_zero (by omega : fu ≠ 0)
    unfold f_X1_trioDay_4
    rw [hJ]
    refine wp_gd (dlt hP) (wp_neg (by rw [nI_leI (by omega) (by omega)]; omega) (wp_gd (inb_n (by omega)) ?_))
    rw [nI_clamp (by omega), nI_clamp (by omega), hw, hs k (by omega), nI_1, ush1 (by omega)]
    refine wp_ite (fun q => wp_gd (inb_n (by omega)) (wp_bnd ?_)) (fun q => ?_)
    · have qb : bt w k = true := by
        revert q; cases bt w k <;> decide
      refine wp_mono (ih g (k + 1) _ (by omega) (by omega)) ?_
      rintro r ⟨r1, r2, r3⟩
      have hm := jmax_p a (s k)
      refine ⟨le_tr hm.1 r1, fun j h1 h2 h3 => ?_, ?_⟩
      · by_cases e : j = k
        · rw [e]; exact le_tr hm.2.1 r1
        · exact r2 j (by omega) h2 h3
      · rcases r3 with r3 | ⟨j, h1, h2, h3, h4⟩
        · rcases hm.2.2 with e | e
          · exact Or.inl (r3.trans e)
          · exact Or.inr ⟨k, Nat.le_refl k, by omega, qb, r3.trans e⟩
        · exact Or.inr ⟨j, by omega, h2, h3, h4⟩
    · have qb : bt w k = false := by
        revert q; cases bt w k <;> decide
      refine wp_mono (ih g (k + 1) _ (by omega) (by omega)) ?_
      rintro r ⟨r1, r2, r3⟩
      refine ⟨r1, fun j h1 h2 h3 => ?_, ?_⟩
      · by_cases e : j = k
        · rw [e, qb] at h3; cases h3
        · exact r2 j (by omega) h2 h3
      · rcases r3 with r3 | ⟨j, h1, h2, h3, h4⟩
        · exact Or.inl r3
        · exact Or.inr ⟨j, by omega, h2, h3, h4⟩
theorem c_tday (h : cJ I P z J ns tw dy) (hC : C ≤ 6) (hv : vS I z C J tl sd st gv rc mt) {c : Nat} (hc : c < C) {more df : Int32} (hw : I 24 z 0 c = (trv J tl sd st gv rc mt more df c).1)
    (hpos : ∀ j, j < J → tl c j = true → 0 ≤ (sd c j).toInt) :
    f_X1_trioDay I P z (nI c) = some (trv J tl sd st gv rc mt more df c).2 := by
  have hJ5 := h.2.2.1
  refine wp_eq.mp ?_
  refine wp_mono (c_tday_4 h (by omega) hw (fun j hj => (hv.1 c hc j hj).1) J FU 0 (-1) (by omega) (by unfold FU; omega)) ?_
  rintro r ⟨r1, r2, r3⟩
  rcases tri_inv J (gjv tl gv rc more df c) (st c) (sd c) mt with e | ⟨x, y, w, h1, h2, h3, h5, e⟩
  · have e' : trv J tl sd st gv rc mt more df c = (0, -1) := e
    rw [e'] at r3 ⊢
    rcases r3 with r3 | ⟨j, _, _, q, _⟩
    · exact r3
    · rw [b_0] at q; cases q
  · have e' : trv J tl sd st gv rc mt more df c = (b3 x y w, d3 (sd c) x y w) := e
    rw [e'] at r2 r3 ⊢
    have bx : ∀ i, i < 32 → bt (b3 x y w) i = (decide (i = x) || decide (i = y) || decide (i = w)) := fun i hi => bt_b3 (by omega) (by omega) (by omega) hi
    have q1 := r2 x (Nat.zero_le _) (by omega) (by rw [bx x (by omega)]; simp)
    have q2 := r2 y (Nat.zero_le _) (by omega) (by rw [bx y (by omega)]; simp)
    have q3 := r2 w (Nat.zero_le _) (by omega) (by rw [bx w (by omega)]; simp)
    have g1 : tl c x = true ∧ tl c y = true ∧ tl c w = true := by
      unfold ok3 gjv at h5
      simp only [Bool.and_eq_true] at h5
      exact ⟨h5.1.1.1.1, h5.1.2.1.1.1, h5.1.2.2.1.1⟩
    have p1 := hpos x (by omega) g1.1
    have hd : (sd c x ≤ d3 (sd c) x y w ∧ sd c y ≤ d3 (sd c) x y w ∧ sd c w ≤ d3 (sd c) x y w) ∧ (d3 (sd c) x y w = sd c x ∨ d3 (sd c) x y w = sd c y ∨ d3 (sd c) x y w = sd c w) := by
      unfold d3
      have j1 := jmax_p (sd c y) (sd c w)
      have j2 := jmax_p (sd c x) (jmax (sd c y) (sd c w))
      refine ⟨⟨j2.1, le_tr j1.1 j2.2.1, le_tr j1.2.1 j2.2.1⟩, ?_⟩
      rcases j2.2.2 with e | e
      · exact Or.inl e
      · rcases j1.2.2 with e2 | e2
        · exact Or.inr (Or.inl (e.trans e2))
        · exact Or.inr (Or.inr (e.trans e2))
    have hr : r ≤ d3 (sd c) x y w := by
      rcases r3 with r3 | ⟨j, _, hj, q, r3⟩
      · rw [r3, fa_le]
        have h6 := hd.1.1
        rw [fa_le] at h6
        have h7 : (-1 : Int32).toInt = -1 := rfl
        omega
      · rw [bx j (by omega)] at q
        simp only [Bool.or_eq_true, decide_eq_true_eq] at q
        rcases q with (rfl | rfl) | rfl
        · rw [r3]; exact hd.1.1
        · rw [r3]; exact hd.1.2.1
        · rw [r3]; exact hd.1.2.2
    have hr2 : d3 (sd c) x y w ≤ r := by
      rcases hd.2 with e | e | e <;> rw [e] <;> assumption
    show r = d3 (sd c) x y w
    rw [fa_eq]; rw [fa_le] at hr hr2; omega
end
