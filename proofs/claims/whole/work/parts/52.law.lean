/-! the law: a postfix code and its value, the same on both sides -/
def rs (n : Nat) : Int32 :=
  if n ≤ 9999 then nI n else if n = 10000 then -1 else if n = 10001 then -2 else if n = 10002 then -3 else if n = 10003 then -4 else if n = 10004 then -5
  else if n = 10005 then -27 else if n = 10006 then -26 else if n = 10007 then -28 else if n = 10008 then -24 else if n = 10009 then -25
  else if n = 10010 then -20 else if n = 10011 then -21 else if n = 10012 then -22 else -23
def jn (op : Nat) (a b : Int32) : Int32 :=
  if op = 10005 then (if a = 0 then (if b = 0 then 0 else 1) else 1)
  else if op = 10006 then (if a = 0 then 0 else if b = 0 then 0 else 1)
  else if op = 10008 then (if b ≤ a then 0 else 1)
  else if op = 10009 then (if a = b then 1 else 0)
  else if op = 10010 then a + b else if op = 10011 then a - b else if op = 10012 then a * b
  else if b = 0 then 0 else a / b
def hg (cd : Nat → Nat) : Nat → Nat
  | 0 => 0
  | k + 1 => if cd k ≤ 10004 then hg cd k + 1 else if cd k = 10007 then hg cd k else hg cd k - 1
def sv (cd : Nat → Nat) (va : Nat → Int32) : Nat → Nat → Int32
  | 0 => fun _ => 0
  | k + 1 =>
    if cd k ≤ 9999 then upd (sv cd va k) (hg cd k) (nI (cd k))
    else if cd k ≤ 10004 then upd (sv cd va k) (hg cd k) (va (cd k - 10000))
    else if cd k = 10007 then upd (sv cd va k) (hg cd k - 1) (if sv cd va k (hg cd k - 1) = 0 then 1 else 0)
    else upd (sv cd va k) (hg cd k - 2) (jn (cd k) (sv cd va k (hg cd k - 2)) (sv cd va k (hg cd k - 1)))
def vld (cd : Nat → Nat) (len : Nat) : Prop :=
  len ≤ 600 ∧ (0 < len → 1 ≤ hg cd len) ∧ ∀ k, k < len → cd k ≤ 10013 ∧ hg cd k ≤ 40 ∧ (cd k ≤ 10004 → hg cd k < 40) ∧ (cd k = 10007 → 1 ≤ hg cd k) ∧ (10004 < cd k → cd k ≠ 10007 → 2 ≤ hg cd k)
def vals (a b c d e : Int32) (n : Nat) : Int32 := if n = 0 then a else if n = 1 then b else if n = 2 then c else if n = 3 then d else e
/-- more than 0: it holds -/
def lawv (cd : Nat → Nat) (len : Nat) (a b c d e : Int32) : Int32 := if len = 0 then (if a ≤ 4 then 0 else 1) else sv cd (vals a b c d e) len 0
theorem n_10004 : (10004 : Int32) = nI 10004 := rfl
theorem n_9999 : (9999 : Int32) = nI 9999 := rfl
theorem n_10000 : (10000 : Int32) = nI 10000 := rfl
theorem n_10005 : (10005 : Int32) = nI 10005 := rfl
theorem n_10006 : (10006 : Int32) = nI 10006 := rfl
theorem n_10007 : (10007 : Int32) = nI 10007 := rfl
theorem n_10008 : (10008 : Int32) = nI 10008 := rfl
theorem n_10009 : (10009 : Int32) = nI 10009 := rfl
theorem n_10010 : (10010 : Int32) = nI 10010 := rfl
theorem n_10011 : (10011 : Int32) = nI 10011 := rfl
theorem n_10012 : (10012 : Int32) = nI 10012 := rfl
theorem n_40 : (40 : Int32) = nI 40 := rfl
theorem n_2 : (2 : Int32) = nI 2 := rfl
theorem nI_p1 {h : Nat} (h1 : 1 ≤ h) : nI h - 1 = nI (h - 1) := pk_sub (b := 1) h1
theorem nI_m1 {h : Nat} (h1 : 1 ≤ h) : nI h + (-1) = nI (h - 1) := by
  have := pk_m1 (h - 1)
  rw [Nat.sub_add_cancel h1] at this
  exact this
theorem c_join {I : Mem} {op : Nat} (h : op ≤ 10013) (h4 : 10004 < op) (h7 : op ≠ 10007) (a b : Int32) : f_X4_join I (nI op) a b = some (jn op a b) := by
  unfold f_X4_join jn
  simp (disch := omega) only [gd, bnd, inb_n, nI_clamp, nI_leI, nI_ltI, nI_eq, nI_1, if_true, if_false, decide_true, ite_true, ite_false, n_10005, n_10006, n_10007, n_10008, n_10009, n_10010, n_10011, n_10012, h7]
  by_cases hb : b = 0
  · simp only [hb, if_true]
    repeat' split
    all_goals rfl
  · have hb' : (b != 0) = true := by simp [hb]
    simp only [hb, hb', if_true, if_false]
    repeat' split
    all_goals rfl
theorem r_reckon {I : Mem} {op : Nat} (h : op ≤ 10013) (h4 : 10004 < op) (h7 : op ≠ 10007) (a b : Int32) : f_X8_reckon I (rs op) a b = some (jn op a b) := by
  have q : op = 10005 ∨ op = 10006 ∨ op = 10008 ∨ op = 10009 ∨ op = 10010 ∨ op = 10011 ∨ op = 10012 ∨ op = 10013 := by omega
  unfold f_X8_reckon
  rcases q with rfl | rfl | rfl | rfl | rfl | rfl | rfl | rfl
  · rw [show rs 10005 = -27 from rfl, show jn 10005 a b = (if a = 0 then (if b = 0 then 0 else 1) else 1) from rfl]
    rw [if_neg (by decide), if_neg (by decide), if_neg (by decide), if_neg (by decide), if_neg (by decide), if_neg (by decide), if_neg (by decide)]
    repeat' split
    all_goals rfl
  · rw [show rs 10006 = -26 from rfl, show jn 10006 a b = (if a = 0 then 0 else if b = 0 then 0 else 1) from rfl, if_pos rfl]
    repeat' split
    all_goals rfl
  · rw [show rs 10008 = -24 from rfl, show jn 10008 a b = (if b ≤ a then 0 else 1) from rfl]
    rw [if_neg (by decide), if_neg (by decide), if_pos rfl]
    split <;> rfl
  · rw [show rs 10009 = -25 from rfl, show jn 10009 a b = (if a = b then 1 else 0) from rfl]
    rw [if_neg (by decide), if_pos rfl]
    split <;> rfl
  · rfl
  · rfl
  · rfl
  · rw [show rs 10013 = -23 from rfl, show jn 10013 a b = (if b = 0 then 0 else a / b) from rfl]
    rw [if_neg (by decide), if_neg (by decide), if_neg (by decide), if_pos rfl]
    by_cases hb : b = 0
    · rw [if_pos hb, if_pos hb]
    · rw [if_neg hb, if_neg hb, gd_t (by simp [hb])]
section
variable {l : Nat} {cd : Nat → Nat} {len : Nat} {va : Nat → Int32}
theorem sv_cong (hv : vld cd len) : ∀ k, k ≤ len → hg cd k ≤ 41 := by
  intro k hk
  cases k with
  | zero => simp [hg]
  | succ k =>
    have := hv.2.2 k (by omega)
    unfold hg
    split
    · omega
    · split <;> omega
/-- one step of the stack -/
theorem sv_step {k : Nat} {f : Nat → Int32} {x : Int32} {n : Nat} (hs : ∀ i, i < hg cd k → f i = sv cd va k i) (hn : n ≤ hg cd k) (he : sv cd va (k + 1) = upd (sv cd va k) n x) (hh : hg cd (k + 1) ≤ n + 1 ∨ hg cd (k + 1) ≤ hg cd k) :
    ∀ i, i < hg cd (k + 1) → (if i = n then x else f i) = sv cd va (k + 1) i := by
  intro i hi
  rw [he]
  by_cases e : i = n
  · subst e; rw [if_pos rfl, pk_us]
  · rw [if_neg e, pk_un e]
    exact hs i (by omega)
theorem c_gives_61 (hv : vld cd len) (hl : 0 < len) : ∀ m fu k I, k + m = len → m < fu →
    I 4 l 0 1 = nI len → (∀ k, k < len → I 41 l 0 k = nI (cd k)) → (∀ v, v < 5 → I 43 l 0 v = va v) → (∀ i, i < hg cd k → I 42 l 0 i = sv cd va k i) →
    wp (f_X4_gives_61 l fu I (nI (hg cd k)) (nI k)) (fun r => r.1 = sv cd va len 0 ∧ Fr [(42, l)] I r.2) := by
  intro m
  induction m with
  | zero =>
    intro fu k I hk hf h4 h41 h43 h42
    obtain ⟨g, rfl⟩ := Nat.exists_eq_succ_of_ne_zero (by omega : fu ≠ 0)
    have hk' : k = len := by omega
    subst hk'
    unfold f_X4_gives_61
    rw [h4]
    have := hv.1
    refine wp_pos (by rw [nI_leI (by omega) (by omega)]; omega) (wp_some ⟨?_, Fr.rfl⟩)
    exact h42 0 (hv.2.1 hl)
  | succ m ih =>
    intro fu k I hk hf h4 h41 h43 h42
    obtain ⟨g, rfl⟩ := Nat.exists_eq_succ_of_ne_zero (by omega : fu ≠ 0)
    have hl6 := hv.1
    obtain ⟨v1, v2, v3, v4, v5⟩ := hv.2.2 k (by omega)
    have nx : ∀ (n : Nat) (x : Int32) (w : Int32), n ≤ hg cd k → sv cd va (k + 1) = upd (sv cd va k) n x → (hg cd (k + 1) ≤ n + 1 ∨ hg cd (k + 1) ≤ hg cd k) → w = nI (hg cd (k + 1)) →
        wp (f_X4_gives_61 l g (upd4 I 42 l 0 n x) w (nI k + 1)) (fun r => r.1 = sv cd va len 0 ∧ Fr [(42, l)] I r.2) := by
      intro n x w hn he hh hw
      rw [nI_1, hw]
      refine wp_mono (ih g (k + 1) _ (by omega) (by omega) (by rw [u_c (by decide)]; exact h4) (by rw [u_c (by decide)]; exact h41) (by rw [u_c (by decide)]; exact h43) ?_) ?_
      · intro i hi
        rw [u_if, ← sv_step h42 hn he hh i hi]
        simp
      · rintro r ⟨a, b⟩
        exact ⟨a, (Fr.up (by simp)).tr b⟩
    unfold f_X4_gives_61
    rw [h4]
    refine wp_neg (by rw [nI_leI (by omega) (by omega)]; omega) (wp_gd (inb_n (by omega)) (wp_bnd ?_))
    rw [nI_clamp (by omega), h41 k (by omega), n_10004, n_10007, n_9999, n_40, n_10000, n_2, n_1]
    refine wp_ite (fun q => ?_) (fun q => ?_)
    · rw [nI_ltI (by omega) (by omega)] at q
      refine wp_ite (fun q2 => ?_) (fun q2 => ?_)
      · rw [nI_eq (by omega) (by omega)] at q2
        have hh := v4 q2
        have hgk : hg cd (k + 1) = hg cd k := by rw [hg, if_neg (by omega), if_pos q2]
        have he : sv cd va (k + 1) = upd (sv cd va k) (hg cd k - 1) (if sv cd va k (hg cd k - 1) = 0 then 1 else 0) := by
          rw [sv, if_neg (by omega), if_neg (by omega), if_pos q2]
        refine wp_neg (by rw [nI_ltI (by omega) (by omega)]; omega) ?_
        rw [← n_1, nI_p1 hh]
        refine wp_gd (inb_n (by omega)) ?_
        rw [nI_clamp (by omega), h42 _ (by omega)]
        refine wp_ite (fun q3 => wp_bnd ?_) (fun q3 => wp_bnd ?_)
        · rw [if_pos q3] at he
          exact nx _ _ _ (by omega) he (by omega) (by rw [hgk])
        · rw [if_neg q3] at he
          exact nx _ _ _ (by omega) he (by omega) (by rw [hgk])
      · rw [nI_eq (by omega) (by omega)] at q2
        have hh := v5 q q2
        have hgk : hg cd (k + 1) = hg cd k - 1 := by rw [hg, if_neg (by omega), if_neg q2]
        have he : sv cd va (k + 1) = upd (sv cd va k) (hg cd k - 2) (jn (cd k) (sv cd va k (hg cd k - 2)) (sv cd va k (hg cd k - 1))) := by
          rw [sv, if_neg (by omega), if_neg (by omega), if_neg q2]
        refine wp_neg (by rw [nI_ltI (by omega) (by omega)]; omega) ?_
        rw [← n_1, nI_m1 (by omega), nI_p1 (by omega), Nat.sub_sub]
        refine wp_gd (inb_n (by omega)) (wp_gd (inb_n (by omega)) ?_)
        rw [nI_clamp (by omega), nI_clamp (by omega), h42 _ (by omega), h42 _ (by omega)]
        refine wp_bindE _ (c_join v1 q q2 _ _) (wp_bnd ?_)
        exact nx _ _ _ (by omega) he (by omega) (by rw [hgk])
    · rw [nI_ltI (by omega) (by omega)] at q
      have hh := v3 (by omega)
      have hgk : hg cd (k + 1) = hg cd k + 1 := by rw [hg, if_pos (by omega)]
      refine wp_neg (by rw [nI_leI (by omega) (by omega)]; omega) ?_
      refine wp_ite (fun q2 => ?_) (fun q2 => ?_)
      · rw [nI_ltI (by omega) (by omega)] at q2
        have he : sv cd va (k + 1) = upd (sv cd va k) (hg cd k) (va (cd k - 10000)) := by
          rw [sv, if_neg (by omega), if_pos (by omega)]
        rw [pk_sub (by omega)]
        refine wp_gd (inb_n (by omega)) (wp_gd (inb_n (by omega)) (wp_bnd ?_))
        rw [nI_clamp (by omega), nI_clamp (by omega), h43 _ (by omega)]
        exact nx _ _ _ (by omega) he (by omega) (by rw [hgk, ← n_1, nI_1])
      · rw [nI_ltI (by omega) (by omega)] at q2
        have he : sv cd va (k + 1) = upd (sv cd va k) (hg cd k) (nI (cd k)) := by
          rw [sv, if_pos (by omega)]
        refine wp_gd (inb_n (by omega)) (wp_bnd ?_)
        rw [nI_clamp (by omega)]
        exact nx _ _ _ (by omega) he (by omega) (by rw [hgk, ← n_1, nI_1])
theorem c_gives {I : Mem} (hv : vld cd len) (h4 : I 4 l 0 1 = nI len) (h41 : ∀ k, k < len → I 41 l 0 k = nI (cd k)) (a b c d e : Int32) :
    wp (f_X4_gives l I a b c d e) (fun r => r.1 = lawv cd len a b c d e ∧ Fr [(42, l), (43, l)] I r.2) := by
  have hl6 := hv.1
  unfold f_X4_gives lawv
  rw [h4, n_0]
  by_cases q : len = 0
  · rw [if_pos q]
    refine wp_pos (by rw [q]) ?_
    refine wp_ite (fun q3 => wp_some ⟨by rw [if_pos q3], Fr.rfl⟩) (fun q3 => wp_some ⟨by rw [if_neg q3], Fr.rfl⟩)
  · rw [if_neg q]
    refine wp_neg (by rw [nI_eq (by omega) (by omega)]; exact q) (wp_bnd (wp_bnd (wp_bnd (wp_bnd (wp_bnd ?_)))))
    refine wp_mono (c_gives_61 (va := vals a b c d e) hv (by omega) len FU 0 _ (by omega) (by unfold FU; omega) ?_ ?_ ?_ ?_) ?_
    · simp only [u_c (show (4 : Nat) ≠ 43 by decide)]; exact h4
    · simp only [u_c (show (41 : Nat) ≠ 43 by decide)]; exact h41
    · intro v hv5
      have : v = 0 ∨ v = 1 ∨ v = 2 ∨ v = 3 ∨ v = 4 := by omega
      rcases this with rfl | rfl | rfl | rfl | rfl <;> simp [u_if, vals]
    · intro i hi; simp [hg] at hi
    · rintro r ⟨a, b⟩
      refine ⟨a, ?_⟩
      have u : ∀ (I : Mem) (i : Nat) (v : Int32), Fr [(42, l), (43, l)] I (upd4 I 43 l 0 i v) := fun I i v => Fr.up (by simp)
      exact ((((u _ _ _).tr (u _ _ _)).tr (u _ _ _)).tr (u _ _ _)).tr ((u _ _ _).tr (b.sub (by simp)))
theorem r_valueNow_4 (hv : vld cd len) (hl : 0 < len) : ∀ m fu k I, k + m = len → m < fu →
    I 50 0 0 6 = nI len → (∀ k, k < len → I 58 0 0 k = rs (cd k)) → (∀ v, v < 5 → I 66 0 0 v = va v) → (∀ i, i < hg cd k → I 67 0 0 i = sv cd va k i) →
    wp (f_X8_valueNow_4 fu I (nI (hg cd k)) (nI k)) (fun r => r.1 = sv cd va len 0 ∧ Fr [(67, 0)] I r.2) := by
  intro m
  induction m with
  | zero =>
    intro fu k I hk hf h4 h41 h43 h42
    obtain ⟨g, rfl⟩ := Nat.exists_eq_succ_of_ne_zero (by omega : fu ≠ 0)
    have hk' : k = len := by omega
    subst hk'
    unfold f_X8_valueNow_4
    rw [h4]
    have := hv.1
    refine wp_pos (by rw [nI_leI (by omega) (by omega)]; omega) (wp_some ⟨?_, Fr.rfl⟩)
    exact h42 0 (hv.2.1 hl)
  | succ m ih =>
    intro fu k I hk hf h4 h41 h43 h42
    obtain ⟨g, rfl⟩ := Nat.exists_eq_succ_of_ne_zero (by omega : fu ≠ 0)
    have hl6 := hv.1
    obtain ⟨v1, v2, v3, v4, v5⟩ := hv.2.2 k (by omega)
    have nx : ∀ (n : Nat) (x : Int32) (w : Int32), n ≤ hg cd k → sv cd va (k + 1) = upd (sv cd va k) n x → (hg cd (k + 1) ≤ n + 1 ∨ hg cd (k + 1) ≤ hg cd k) → w = nI (hg cd (k + 1)) →
        wp (f_X8_valueNow_4 g (upd4 I 67 0 0 n x) w (nI k + 1)) (fun r => r.1 = sv cd va len 0 ∧ Fr [(67, 0)] I r.2) := by
      intro n x w hn he hh hw
      rw [nI_1, hw]
      refine wp_mono (ih g (k + 1) _ (by omega) (by omega) (by rw [u_c (by decide)]; exact h4) (by rw [u_c (by decide)]; exact h41) (by rw [u_c (by decide)]; exact h43) ?_) ?_
      · intro i hi
        rw [u_if, ← sv_step h42 hn he hh i hi]
        simp
      · rintro r ⟨a, b⟩
        exact ⟨a, (Fr.up (by simp)).tr b⟩
    unfold f_X8_valueNow_4
    rw [h4]
    refine wp_neg (by rw [nI_leI (by omega) (by omega)]; omega) (wp_gd (inb_n (by omega)) (wp_bnd ?_))
    rw [nI_clamp (by omega), h41 k (by omega)]
    by_cases q : cd k ≤ 9999
    · have e : rs (cd k) = nI (cd k) := if_pos q
      have hh := v3 (by omega)
      have hgk : hg cd (k + 1) = hg cd k + 1 := by rw [hg, if_pos (by omega)]
      have he : sv cd va (k + 1) = upd (sv cd va k) (hg cd k) (nI (cd k)) := by
        rw [sv, if_pos (by omega)]
      rw [e]
      refine wp_neg (by rw [fa_le, nI_toInt (by omega)]; have : (-20 : Int32).toInt = -20 := rfl; omega) ?_
      refine wp_neg (nI_pos (by omega)) ?_
      refine wp_gd (inb_n (by omega)) (wp_bnd ?_)
      rw [nI_clamp (by omega)]
      exact nx _ _ _ (by omega) he (by omega) (by rw [hgk, nI_1])
    · by_cases q2 : cd k ≤ 10004
      · have hh := v3 (by omega)
        have hgk : hg cd (k + 1) = hg cd k + 1 := by rw [hg, if_pos (by omega)]
        have he : sv cd va (k + 1) = upd (sv cd va k) (hg cd k) (va (cd k - 10000)) := by
          rw [sv, if_neg (by omega), if_pos (by omega)]
        have hc : ¬ rs (cd k) ≤ -20 ∧ rs (cd k) < 0 ∧ (-1 : Int32) - rs (cd k) = nI (cd k - 10000) := by
          have : cd k = 10000 ∨ cd k = 10001 ∨ cd k = 10002 ∨ cd k = 10003 ∨ cd k = 10004 := by omega
          rcases this with h | h | h | h | h <;> rw [h] <;> decide
        refine wp_neg hc.1 (wp_pos hc.2.1 ?_)
        rw [hc.2.2]
        refine wp_gd (inb_n (by omega)) (wp_gd (inb_n (by omega)) (wp_bnd ?_))
        rw [nI_clamp (by omega), nI_clamp (by omega), h43 _ (by omega)]
        exact nx _ _ _ (by omega) he (by omega) (by rw [hgk, nI_1])
      · have hc : rs (cd k) ≤ -20 ∧ (rs (cd k) = -28 ↔ cd k = 10007) := by
          have : cd k = 10005 ∨ cd k = 10006 ∨ cd k = 10007 ∨ cd k = 10008 ∨ cd k = 10009 ∨ cd k = 10010 ∨ cd k = 10011 ∨ cd k = 10012 ∨ cd k = 10013 := by omega
          rcases this with h | h | h | h | h | h | h | h | h <;> rw [h] <;> decide
        refine wp_pos hc.1 (wp_ite (fun q3 => ?_) (fun q3 => ?_))
        · have q2 := hc.2.mp q3
          have hh := v4 q2
          have hgk : hg cd (k + 1) = hg cd k := by rw [hg, if_neg (by omega), if_pos q2]
          have he : sv cd va (k + 1) = upd (sv cd va k) (hg cd k - 1) (if sv cd va k (hg cd k - 1) = 0 then 1 else 0) := by
            rw [sv, if_neg (by omega), if_neg (by omega), if_pos q2]
          rw [nI_p1 hh]
          refine wp_gd (inb_n (by omega)) ?_
          rw [nI_clamp (by omega), h42 _ (by omega)]
          refine wp_ite (fun q3 => wp_bnd ?_) (fun q3 => wp_bnd ?_)
          · rw [if_pos q3] at he
            exact nx _ _ _ (by omega) he (by omega) (by rw [hgk])
          · rw [if_neg q3] at he
            exact nx _ _ _ (by omega) he (by omega) (by rw [hgk])
        · have q4 : cd k ≠ 10007 := fun e => q3 (hc.2.mpr e)
          have hh := v5 (by omega) q4
          have hgk : hg cd (k + 1) = hg cd k - 1 := by rw [hg, if_neg (by omega), if_neg q4]
          have he : sv cd va (k + 1) = upd (sv cd va k) (hg cd k - 2) (jn (cd k) (sv cd va k (hg cd k - 2)) (sv cd va k (hg cd k - 1))) := by
            rw [sv, if_neg (by omega), if_neg (by omega), if_neg q4]
          rw [nI_m1 (by omega), nI_p1 (by omega), Nat.sub_sub]
          refine wp_gd (inb_n (by omega)) (wp_gd (inb_n (by omega)) ?_)
          rw [nI_clamp (by omega), nI_clamp (by omega), h42 _ (by omega), h42 _ (by omega)]
          refine wp_bindE _ (r_reckon v1 (by omega) q4 _ _) (wp_bnd ?_)
          exact nx _ _ _ (by omega) he (by omega) (by rw [hgk])
end
