/-! the class's court: meetings, to their end -/
theorem ex_snoc (p : Nat → Bool) : ∀ m k, ex p k (m + 1) = (ex p k m || p (k + m))
  | 0, k => by simp [ex]
  | m + 1, k => by
    rw [ex, ex_snoc p m (k + 1), ex, show k + 1 + m = k + (m + 1) by omega, Bool.or_assoc]
def pd (a b x y : Nat) : Bool := decide ((x < a ∧ y < a) ∨ (x = a ∧ y < b) ∨ (y = a ∧ x < b))
theorem wet2 {w : Int32} {a b : Nat} (ha : a < 32) (hb : b < 32) : ((jushr w (nI a) &&& jushr w (nI b)) &&& 1 = 1) ↔ (bt w a && bt w b) = true := by
  have h1 : ∀ j, j < 32 → bt 1 j = decide (j = 0) := by decide +kernel
  have e : (jushr w (nI a) &&& jushr w (nI b)) &&& 1 = bI (bt w a && bt w b) := by
    apply b_ext
    intro i hi
    unfold jushr
    rw [b_and, b_and, b_ushr a ha, b_ushr b hb, h1 i hi]
    by_cases q : i = 0
    · subst q
      rw [Nat.add_zero, Nat.add_zero]
      cases bt w a <;> cases bt w b <;> rfl
    · rw [decide_eq_false q, Bool.and_false]
      unfold bI
      split
      · rw [h1 i hi, decide_eq_false q]
      · rw [b_0]
  rw [e]
  cases bt w a && bt w b <;> decide
def qf (p : Nat → Nat → Int32 → Bool) (w : Int32) (d : Nat) (x y : Nat) (v : Int32) : Bool := p x y v || (decide (v = nI d) && (bt w x && bt w y))
theorem qf_symm {p : Nat → Nat → Int32 → Bool} (hs : ∀ x y v, p x y v = p y x v) {w : Int32} {d x y : Nat} {v : Int32} : qf p w d x y v = qf p w d y x v := by
  unfold qf; rw [hs, Bool.and_comm (bt w x)]
def mS (I : Mem) (z J : Nat) (p : Nat → Nat → Int32 → Bool) : Prop := ∀ x y, x < J → y < J → x ≠ y → I 23 z x y = mv (p x y)
def cD (I : Mem) (P : PMem) (z T : Nat) (rd : Nat → Nat → Int32) : Prop := T ≤ 9 ∧ ∀ a, a < T → ∀ b, b < T → I 30 (P 1 z 0 0) a b = rd a b
section
variable {P : PMem} {z J : Nat} {ns : Nat → Nat} {tw : Nat → Nat → Nat} {dy : Nat → Nat → Int32} {T : Nat} {rd : Nat → Nat → Int32}
theorem cD_fr {I I' : Mem} {S : List (Nat × Nat)} (h : cD I P z T rd) (F : Fr S I I') (hs' : ∀ z, ¬ (30, z) ∈ S) : cD I' P z T rd := by
  unfold cD at *
  rw [F.gc hs']
  exact h
theorem cR_fr {I I' : Mem} {S : List (Nat × Nat)} {b n : Nat} {a1 a2 a3 : Nat → Int32} (h : cRw I b n a1 a2 a3) (F : Fr S I I') (hs' : ∀ c, c ∈ [6, 44, 45, 46] → ¬ (c, b) ∈ S) : cRw I' b n a1 a2 a3 := by
  unfold cRw at *
  rw [F.g (hs' 6 (by decide)), F.g (hs' 44 (by decide)), F.g (hs' 45 (by decide)), F.g (hs' 46 (by decide))]
  exact h
theorem c_flood_98 {w : Int32} {d : Nat} (hd : d < 115) {a : Nat} (ha : a < J) (hJ5 : J ≤ 5) {p : Nat → Nat → Int32 → Bool} (hsy : ∀ x y v, p x y v = p y x v) {k83 : Mem → Int32 → Int32 → Int32 → Option Mem} {Q : Mem → Prop} : ∀ m fu b I, b + m = a → m < fu →
    (∀ x y, x < J → y < J → x ≠ y → I 23 z x y = mv (if pd a b x y then qf p w d x y else p x y)) →
    (∀ I', Fr [(23, z)] I I' → (∀ x y, x < J → y < J → x ≠ y → I' 23 z x y = mv (if pd (a + 1) 0 x y then qf p w d x y else p x y)) → wp (k83 I' (nI d) w (nI (a + 1))) Q) →
    wp (f_X1_meetInFlood_98 k83 P z fu I (nI d) w (nI a) (nI b)) Q := by
  intro m
  induction m with
  | zero =>
    intro fu b I hk hf h hK
    obtain ⟨g, rfl⟩ := Nat.exists_eq_succ_of_ne_zero (by omega : fu ≠ 0)
    have hk' : b = a := by omega
    subst hk'
    unfold f_X1_meetInFlood_98
    rw [nI_1]
    refine wp_pos (by rw [nI_leI (by omega) (by omega)]; omega) (hK I Fr.rfl ?_)
    intro x y hx hy hxy
    rw [h x y hx hy hxy]
    have : pd b b x y = pd (b + 1) 0 x y := by
      unfold pd; apply decide_eq_decide.mpr; omega
    rw [this]
  | succ m ih =>
    intro fu b I hk hf h hK
    obtain ⟨g, rfl⟩ := Nat.exists_eq_succ_of_ne_zero (by omega : fu ≠ 0)
    unfold f_X1_meetInFlood_98
    rw [nI_1, nI_1]
    refine wp_neg (by rw [nI_leI (by omega) (by omega)]; omega) (wp_ite (fun q => ?_) (fun q => ?_))
    · rw [wet2 (by omega) (by omega)] at q
      refine wp_gd (inb_n (by omega)) (wp_gd (inb_n (by omega)) ?_)
      have e0 := h a b ha (by omega) (by omega)
      rw [if_neg (by unfold pd; simp; omega)] at e0
      rw [nI_clamp (by omega), nI_clamp (by omega), e0]
      refine wp_bindE _ (n_earlier hd) (wp_bnd (wp_bnd ?_))
      rw [u_at]
      have F : Fr [(23, z)] I (upd4 (upd4 I 23 z a b (mv fun x => p a b x || decide (x = nI d))) 23 z b a (mv fun x => p a b x || decide (x = nI d))) := (Fr.up (by simp)).tr (Fr.up (by simp))
      have e1 : (mv fun x => p a b x || decide (x = nI d)) = mv (qf p w d a b) := mv_cong fun x _ => by unfold qf; rw [q, Bool.and_true]
      refine ih g (b + 1) _ (by omega) (by omega) ?_ (fun I' F' h' => hK I' (F.tr F') h')
      intro x y hx hy hxy
      rw [u_if, u_if]
      by_cases c1 : x = b ∧ y = a
      · rw [if_pos c1, e1, if_pos (by unfold pd; simp; omega), c1.1, c1.2]
        exact mv_cong fun v _ => qf_symm hsy
      · rw [if_neg c1]
        by_cases c2 : x = a ∧ y = b
        · rw [if_pos c2, e1, if_pos (by unfold pd; simp; omega), c2.1, c2.2]
        · rw [if_neg c2, h x y hx hy hxy]
          have : pd a b x y = pd a (b + 1) x y := by
            unfold pd; apply decide_eq_decide.mpr; omega
          rw [this]
    · rw [wet2 (by omega) (by omega)] at q
      have q' := Bool.eq_false_iff.mpr q
      refine ih g (b + 1) _ (by omega) (by omega) ?_ hK
      intro x y hx hy hxy
      rw [h x y hx hy hxy]
      by_cases c1 : (x = b ∧ y = a) ∨ (x = a ∧ y = b)
      · rw [if_neg (by unfold pd; simp; omega), if_pos (by unfold pd; simp; omega)]
        refine mv_cong fun v _ => ?_
        unfold qf
        rcases c1 with ⟨rfl, rfl⟩ | ⟨rfl, rfl⟩
        · rw [Bool.and_comm (bt w x), q', Bool.and_false, Bool.or_false]
        · rw [q', Bool.and_false, Bool.or_false]
      · have : pd a b x y = pd a (b + 1) x y := by
          unfold pd; apply decide_eq_decide.mpr; omega
        rw [this]
theorem c_flood_83 {w : Int32} {d : Nat} (hd : d < 115) {p : Nat → Nat → Int32 → Bool} (hsy : ∀ x y v, p x y v = p y x v) : ∀ m fu a I, a + m = J → m < fu → cJ I P z J ns tw dy →
    (∀ x y, x < J → y < J → x ≠ y → I 23 z x y = mv (if pd a 0 x y then qf p w d x y else p x y)) →
    wp (f_X1_meetInFlood_83 P z fu I (nI d) w (nI a)) (fun I' => Fr [(23, z)] I I' ∧ mS I' z J (qf p w d)) := by
  intro m
  induction m with
  | zero =>
    intro fu a I hk hf h hh
    obtain ⟨g, rfl⟩ := Nat.exists_eq_succ_of_ne_zero (by omega : fu ≠ 0)
    have ⟨hP, hJ, hJ5, hns, hst⟩ := h
    unfold f_X1_meetInFlood_83
    rw [hJ]
    refine wp_gd (dlt hP) (wp_pos (by rw [nI_leI (by omega) (by omega)]; omega) (wp_some ⟨Fr.rfl, ?_⟩))
    intro x y hx hy hxy
    rw [hh x y hx hy hxy, if_pos (by unfold pd; simp; omega)]
  | succ m ih =>
    intro fu a I hk hf h hh
    obtain ⟨g, rfl⟩ := Nat.exists_eq_succ_of_ne_zero (by omega : fu ≠ 0)
    have ⟨hP, hJ, hJ5, hns, hst⟩ := h
    unfold f_X1_meetInFlood_83
    rw [hJ]
    refine wp_gd (dlt hP) (wp_neg (by rw [nI_leI (by omega) (by omega)]; omega) ?_)
    refine c_flood_98 hd (by omega) hJ5 hsy a FU 0 I (by omega) (by unfold FU; omega) hh (fun I' F h' => ?_)
    refine wp_mono (ih g (a + 1) I' (by omega) (by omega) (cJ_fr h F (by simp)) h') ?_
    rintro r ⟨A, B⟩
    exact ⟨F.tr A, B⟩
theorem c_flood_6 {t : Nat} {d : Nat} (hd : d < 115) {wide : Int32} (ht : t < T) (hT : twT J ns tw T) {p : Nat → Nat → Int32 → Bool} (hsy : ∀ x y v, p x y v = p y x v) {I : Mem} (h : cJ I P z J ns tw dy) (hD : cD I P z T rd) (hm : mS I z J p) : ∀ m fu k w, k + m = J → m < fu →
    wp (f_X1_meetInFlood_6 P z fu I (nI t) (nI d) wide w (nI k)) (fun I' => Fr [(23, z)] I I' ∧ mS I' z J (qf p (bs (wetJ rd ns tw dy t (nI d) wide) k m w) d)) := by
  have ⟨hP, hJ, hJ5, hns, hst⟩ := h
  have hT9 := hD.1
  intro m
  induction m with
  | zero =>
    intro fu k w hk hf
    obtain ⟨g, rfl⟩ := Nat.exists_eq_succ_of_ne_zero (by omega : fu ≠ 0)
    unfold f_X1_meetInFlood_6
    rw [hJ]
    refine wp_gd (dlt hP) (wp_pos (by rw [nI_leI (by omega) (by omega)]; omega) ?_)
    refine c_flood_83 hd hsy J FU 0 I (by omega) (by unfold FU; omega) h ?_
    intro x y hx hy hxy
    rw [hm x y hx hy hxy, if_neg (by unfold pd; simp)]
  | succ m ih =>
    intro fu k w hk hf
    obtain ⟨g, rfl⟩ := Nat.exists_eq_succ_of_ne_zero (by omega : fu ≠ 0)
    have hkJ : k < J := by omega
    unfold f_X1_meetInFlood_6
    rw [hJ, nI_1]
    refine wp_gd (dlt hP) (wp_neg (by rw [nI_leI (by omega) (by omega)]; omega) ?_)
    refine wp_bindE _ (c_townOn h hkJ _) ?_
    rw [tOn_eq]
    have ih0 := ih g (k + 1) w (by omega) (by omega)
    have ih1 := ih g (k + 1) (w ||| jshl 1 (nI k)) (by omega) (by omega)
    rw [bs]
    by_cases e : ix (dy k) (ns k) (nI d) < ns k
    · have ht9 := hT k hkJ _ e
      have e30 := hD.2 _ ht9 t ht
      rw [if_pos e]
      refine wp_neg (nI_ni (by omega)) (wp_gd (inb_n (by omega)) (wp_gd (inb_n (by omega)) ?_))
      rw [nI_clamp (by omega), nI_clamp (by omega), e30]
      refine wp_ite (fun q => ?_) (fun q => wp_ite (fun q2 => ?_) (fun q2 => wp_bnd ?_))
      · rw [if_neg (by unfold wetJ wetA; simp [q])]; exact ih0
      · have : ¬ rd (tw k (ix (dy k) (ns k) (nI d))) t ≤ wide := (fa_of_lt q2).2.1
        rw [if_neg (by unfold wetJ wetA; simp [this])]; exact ih0
      · have := fa_of_nlt q2
        rw [if_pos (by unfold wetJ wetA; simp [this, e, q])]; exact ih1
    · rw [if_neg e]
      refine wp_pos rfl ?_
      rw [if_neg (by unfold wetJ; simp; intro h; omega)]; exact ih0
theorem c_flood {t : Nat} {d : Nat} (hd : d < 115) {wide : Int32} (ht : t < T) (hT : twT J ns tw T) {p : Nat → Nat → Int32 → Bool} (hsy : ∀ x y v, p x y v = p y x v) {I : Mem} (h : cJ I P z J ns tw dy) (hD : cD I P z T rd) (hm : mS I z J p) :
    wp (f_X1_meetInFlood P z I (nI t) (nI d) wide) (fun I' => Fr [(23, z)] I I' ∧ mS I' z J (fun x y v => p x y v || (decide (nI d = v) && (wetJ rd ns tw dy t v wide x && wetJ rd ns tw dy t v wide y)))) := by
  have hJ5 := h.2.2.1
  refine wp_mono (c_flood_6 hd ht hT hsy h hD hm J FU 0 0 (by omega) (by unfold FU; omega)) ?_
  rintro I' ⟨F, a⟩
  refine ⟨F, fun x y hx hy hxy => ?_⟩
  rw [a x y hx hy hxy]
  refine mv_cong fun v _ => ?_
  unfold qf
  rw [bt_bs _ _ _ _ _ (by omega) (by omega), bt_bs _ _ _ _ _ (by omega) (by omega), b_0, b_0]
  simp only [Nat.zero_add, Nat.zero_le, decide_true, Bool.true_and, Bool.false_or, hx, hy]
  by_cases e : nI v = nI d
  · rw [e]
  · rw [decide_eq_false e, decide_eq_false (fun h => e h.symm), Bool.false_and, Bool.false_and]
theorem c_meet_71 {n : Nat} {gt : Nat → Nat} {g2 g3 : Nat → Int32} {inns : Int32} (hT : twT J ns tw T) (hg : ∀ k, k < n → gt k < T ∧ 0 ≤ (g2 k).toInt ∧ (g2 k).toInt ≤ 114) : ∀ m fu k I, k + m = n → m < fu →
    cJ I P z J ns tw dy → cD I P z T rd → cRw I 2 n (fun k => nI (gt k)) g2 g3 → mS I z J (mtg inns rd ns tw dy k gt g2 g3) →
    wp (f_X1_meetAll_71 P z fu I 2 (nI k)) (fun I' => Fr [(23, z)] I I' ∧ mS I' z J (mtg inns rd ns tw dy n gt g2 g3)) := by
  have h40 := rl (b := 2)
  intro m
  induction m with
  | zero =>
    intro fu k I hk hf h hD hR hm
    obtain ⟨g, rfl⟩ := Nat.exists_eq_succ_of_ne_zero (by omega : fu ≠ 0)
    have hk' : k = n := by omega
    subst hk'
    have hr1 := hR.2.1
    unfold f_X1_meetAll_71
    rw [hR.1]
    exact wp_pos (by rw [nI_leI (by omega) (by omega)]; omega) (wp_some ⟨Fr.rfl, hm⟩)
  | succ m ih =>
    intro fu k I hk hf h hD hR hm
    obtain ⟨g, rfl⟩ := Nat.exists_eq_succ_of_ne_zero (by omega : fu ≠ 0)
    have hr1 := hR.2.1
    obtain ⟨r1, r2, r3⟩ := hR.2.2 k (by omega)
    obtain ⟨q1, q2⟩ := hg k (by omega)
    obtain ⟨d, hd, ed⟩ := day_n q2
    unfold f_X1_meetAll_71
    rw [hR.1, nI_1]
    refine wp_neg (by rw [nI_leI (by omega) (by omega)]; omega) (wp_gd (inb_n (by omega) (by omega)) ?_)
    rw [nI_clamp (by omega), r1, r2, r3, ed]
    refine wp_bind (c_flood (p := mtg inns rd ns tw dy k gt g2 g3) hd q1 hT (fun x y v => mtg_symm) h hD hm) ?_
    rintro I2 ⟨F, hm2⟩
    refine wp_mono (ih g (k + 1) I2 (by omega) (by omega) (cJ_fr h F (by simp)) (cD_fr hD F (by simp)) (cR_fr hR F (by simp)) ?_) ?_
    · intro x y hx hy hxy
      rw [hm2 x y hx hy hxy]
      refine mv_cong fun v _ => ?_
      unfold mtg
      rw [ex_snoc, ← Bool.or_assoc, Nat.zero_add]
      congr 1
      unfold floM
      rw [ed]
    · rintro r ⟨A, B⟩
      exact ⟨F.tr A, B⟩
theorem c_meet_15 {inns : Int32} (hd : Days dy J ns) {a : Nat} (ha : a < J) {k2 : Mem → Int32 → Int32 → Option Mem} {Q : Mem → Prop} : ∀ m fu b I, b + m = a → m < fu → cJ I P z J ns tw dy →
    (∀ x y, x < J → y < J → x ≠ y → pd a b x y = true → I 23 z x y = mv (innM inns ns tw dy x y)) →
    (∀ I', Fr [(23, z)] I I' → (∀ x y, x < J → y < J → x ≠ y → pd (a + 1) 0 x y = true → I' 23 z x y = mv (innM inns ns tw dy x y)) → wp (k2 I' inns (nI (a + 1))) Q) →
    wp (f_X1_meetAll_15 k2 P z fu I inns (nI a) (nI b)) Q := by
  intro m
  induction m with
  | zero =>
    intro fu b I hk hf hJ' h hK
    obtain ⟨g, rfl⟩ := Nat.exists_eq_succ_of_ne_zero (by omega : fu ≠ 0)
    have ⟨hP, hJ, hJ5, hns, hst⟩ := hJ'
    have hk' : b = a := by omega
    subst hk'
    unfold f_X1_meetAll_15
    rw [nI_1]
    refine wp_pos (by rw [nI_leI (by omega) (by omega)]; omega) (hK I Fr.rfl ?_)
    intro x y hx hy hxy hp
    refine h x y hx hy hxy ?_
    unfold pd at *; simp at *; omega
  | succ m ih =>
    intro fu b I hk hf hJ' h hK
    obtain ⟨g, rfl⟩ := Nat.exists_eq_succ_of_ne_zero (by omega : fu ≠ 0)
    have ⟨hP, hJ, hJ5, hns, hst⟩ := hJ'
    unfold f_X1_meetAll_15
    rw [nI_1, nI_1]
    refine wp_neg (by rw [nI_leI (by omega) (by omega)]; omega) ?_
    refine wp_bindE _ (c_inn hJ' hd ha (by omega) inns) (wp_gd (inb_n (by omega)) (wp_gd (inb_n (by omega)) (wp_bnd (wp_bnd ?_))))
    rw [nI_clamp (by omega), nI_clamp (by omega)]
    have F : Fr [(23, z)] I (upd4 (upd4 I 23 z a b (mv (innM inns ns tw dy a b))) 23 z b a (mv (innM inns ns tw dy a b))) := (Fr.up (by simp)).tr (Fr.up (by simp))
    refine ih g (b + 1) _ (by omega) (by omega) (cJ_fr hJ' F (by simp)) ?_ (fun I' F' h' => hK I' (F.tr F') h')
    intro x y hx hy hxy hp
    rw [u_if, u_if]
    by_cases c1 : x = b ∧ y = a
    · rw [if_pos c1, c1.1, c1.2]
      exact mv_cong fun v _ => innM_symm
    · rw [if_neg c1]
      by_cases c2 : x = a ∧ y = b
      · rw [if_pos c2, c2.1, c2.2]
      · rw [if_neg c2]
        refine h x y hx hy hxy ?_
        unfold pd at *; simp at *; omega
theorem c_meet_2 {n : Nat} {gt : Nat → Nat} {g2 g3 : Nat → Int32} {inns : Int32} (hd : Days dy J ns) (hb : P 1 z 0 1 = 0) (hT : twT J ns tw T) (hg : ∀ k, k < n → gt k < T ∧ 0 ≤ (g2 k).toInt ∧ (g2 k).toInt ≤ 114) : ∀ m fu a I, a + m = J → m < fu →
    cJ I P z J ns tw dy → cD I P z T rd → cRw I 2 n (fun k => nI (gt k)) g2 g3 → (∀ x y, x < J → y < J → x ≠ y → pd a 0 x y = true → I 23 z x y = mv (innM inns ns tw dy x y)) →
    wp (f_X1_meetAll_2 P z fu I inns (nI a)) (fun I' => Fr [(23, z)] I I' ∧ mS I' z J (mtg inns rd ns tw dy n gt g2 g3)) := by
  have h40 := rl (b := 2)
  intro m
  induction m with
  | zero =>
    intro fu a I hk hf h hD hR hm
    obtain ⟨g, rfl⟩ := Nat.exists_eq_succ_of_ne_zero (by omega : fu ≠ 0)
    have ⟨hP, hJ, hJ5, hns, hst⟩ := h
    have hr1 := hR.2.1
    unfold f_X1_meetAll_2
    rw [hJ, hb]
    refine wp_gd (dlt hP) (wp_pos (by rw [nI_leI (by omega) (by omega)]; omega) (wp_gd (by decide) ?_))
    refine c_meet_71 hT hg n FU 0 I (by omega) (by unfold FU; omega) h hD hR ?_
    intro x y hx hy hxy
    rw [hm x y hx hy hxy (by unfold pd; simp; omega)]
    refine mv_cong fun v _ => ?_
    unfold mtg
    rw [ex, Bool.or_false]
  | succ m ih =>
    intro fu a I hk hf h hD hR hm
    obtain ⟨g, rfl⟩ := Nat.exists_eq_succ_of_ne_zero (by omega : fu ≠ 0)
    have ⟨hP, hJ, hJ5, hns, hst⟩ := h
    unfold f_X1_meetAll_2
    rw [hJ]
    refine wp_gd (dlt hP) (wp_neg (by rw [nI_leI (by omega) (by omega)]; omega) ?_)
    refine c_meet_15 hd (by omega) a FU 0 I (by omega) (by unfold FU; omega) h hm (fun I' F h' => ?_)
    refine wp_mono (ih g (a + 1) I' (by omega) (by omega) (cJ_fr h F (by simp)) (cD_fr hD F (by simp)) (cR_fr hR F (by simp)) h') ?_
    rintro r ⟨A, B⟩
    exact ⟨F.tr A, B⟩
theorem c_meetAll {n : Nat} {gt : Nat → Nat} {g2 g3 : Nat → Int32} {I : Mem} (inns : Int32) (hd : Days dy J ns) (hb : P 1 z 0 1 = 0) (hT : twT J ns tw T) (hg : ∀ k, k < n → gt k < T ∧ 0 ≤ (g2 k).toInt ∧ (g2 k).toInt ≤ 114)
    (h : cJ I P z J ns tw dy) (hD : cD I P z T rd) (hR : cRw I 2 n (fun k => nI (gt k)) g2 g3) :
    wp (f_X1_meetAll P z I inns) (fun I' => Fr [(23, z)] I I' ∧ mS I' z J (mtg inns rd ns tw dy n gt g2 g3)) := by
  have hJ5 := h.2.2.1
  exact c_meet_2 hd hb hT hg J FU 0 I (by omega) (by unfold FU; omega) h hD hR (fun x y _ _ _ q => by unfold pd at q; simp at q)
end
