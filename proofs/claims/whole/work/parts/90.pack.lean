/-! the reference packs and unpacks a bench -/
theorem n_12 : (12 : Int32) = nI 12 := rfl
theorem n_24 : (24 : Int32) = nI 24 := rfl
theorem n_4 : (4 : Int32) = nI 4 := rfl
theorem n_45 : (45 : Int32) = nI 45 := rfl
/-- what a pack writes -/
def pkv (I I' : Mem) (c q : Nat) : Prop :=
  (∀ j, j < 5 → I' c 0 0 (q + j) = I 53 0 0 j) ∧ I' c 0 0 (q + 5) = I 8 0 0 29 ∧ I' c 0 0 (q + 6) = I 8 0 0 30 ∧ I' c 0 0 (q + 7) = I 8 0 0 31 ∧ I' c 0 0 (q + 8) = I 8 0 0 32 ∧
  ∀ i, i < 12 → I' c 0 0 (q + 9 + i) = I 62 0 0 i ∧ I' c 0 0 (q + 21 + i) = I 63 0 0 i ∧ I' c 0 0 (q + 33 + i) = I 64 0 0 i
section
variable {c q : Nat}
theorem r_pack_73 (hc : c ≠ 62 ∧ c ≠ 63 ∧ c ≠ 64) (hq : q + 45 ≤ cL c 0) (hL : cL c 0 < 10000) : ∀ m fu k I, k + m = 12 → m < fu →
    wp (f_X8_pack_73 c 0 0 fu I (nI (q + 9)) (nI k)) (fun I' => Fr [(c, 0)] I I' ∧ (∀ x, (x < q + 9 + k ∨ (q + 21 ≤ x ∧ x < q + 21 + k) ∨ (q + 33 ≤ x ∧ x < q + 33 + k) ∨ q + 45 ≤ x) → I' c 0 0 x = I c 0 0 x) ∧
      ∀ i, k ≤ i → i < 12 → I' c 0 0 (q + 9 + i) = I 62 0 0 i ∧ I' c 0 0 (q + 21 + i) = I 63 0 0 i ∧ I' c 0 0 (q + 33 + i) = I 64 0 0 i) := by
  intro m
  induction m with
  | zero =>
    intro fu k I hk hf
    obtain ⟨g, rfl⟩ := Nat.exists_eq_succ_of_ne_zero (by omega : fu ≠ 0)
    unfold f_X8_pack_73
    refine wp_pos (by rw [n_12, nI_leI (by omega) (by omega)]; omega) (wp_some ⟨Fr.rfl, fun _ _ => rfl, fun i h1 h2 => by omega⟩)
  | succ m ih =>
    intro fu k I hk hf
    obtain ⟨g, rfl⟩ := Nat.exists_eq_succ_of_ne_zero (by omega : fu ≠ 0)
    unfold f_X8_pack_73
    refine wp_neg (by rw [n_12, nI_leI (by omega) (by omega)]; omega) (wp_gd (inb_n (by omega)) ?_)
    rw [n_12, n_24, nI_add, nI_add, nI_add, nI_add, nI_add, nI_1]
    refine wp_gd (inb_n (by omega) (by omega)) (wp_bnd (wp_gd (inb_n (by omega)) (wp_gd (inb_n (by omega) (by omega)) (wp_bnd (wp_gd (inb_n (by omega)) (wp_gd (inb_n (by omega) (by omega)) (wp_bnd ?_)))))))
    rw [nI_clamp (by omega), nI_clamp (by omega), nI_clamp (by omega), nI_clamp (by omega)]
    rw [u_c (show (63 : Nat) ≠ c from fun e => hc.2.1 e.symm), u_c (show (64 : Nat) ≠ c from fun e => hc.2.2 e.symm), u_c (show (64 : Nat) ≠ c from fun e => hc.2.2 e.symm)]
    have F : Fr [(c, 0)] I (upd4 (upd4 (upd4 I c 0 0 (q + 9 + k) (I 62 0 0 k)) c 0 0 (q + 9 + 12 + k) (I 63 0 0 k)) c 0 0 (q + 9 + 24 + k) (I 64 0 0 k)) := ((Fr.up (by simp)).tr (Fr.up (by simp))).tr (Fr.up (by simp))
    refine wp_mono (ih g (k + 1) _ (by omega) (by omega)) ?_
    rintro I' ⟨F', a, b⟩
    have u : ∀ c', c' ≠ c → upd4 (upd4 (upd4 I c 0 0 (q + 9 + k) (I 62 0 0 k)) c 0 0 (q + 9 + 12 + k) (I 63 0 0 k)) c 0 0 (q + 9 + 24 + k) (I 64 0 0 k) c' = I c' := fun c' h => by rw [u_c h, u_c h, u_c h]
    refine ⟨F.tr F', fun x hx => ?_, fun i h1 h2 => ?_⟩
    · rw [a x (by omega), u_if, if_neg (by omega), u_if, if_neg (by omega), u_if, if_neg (by omega)]
    · by_cases e : i = k
      · subst e
        rw [a _ (by omega), a _ (by omega), a _ (by omega)]
        refine ⟨?_, ?_, ?_⟩
        · rw [u_if, if_neg (by omega), u_if, if_neg (by omega), u_at]
        · rw [u_if, if_neg (by omega), u_if, if_pos ⟨rfl, by omega⟩]
        · rw [u_if, if_pos ⟨rfl, by omega⟩]
      · obtain ⟨b1, b2, b3⟩ := b i (by omega) h2
        rw [b1, b2, b3, u 62 (fun e => hc.1 e.symm), u 63 (fun e => hc.2.1 e.symm), u 64 (fun e => hc.2.2 e.symm)]
        exact ⟨rfl, rfl, rfl⟩
theorem r_pack_5 (hc : c ≠ 62 ∧ c ≠ 63 ∧ c ≠ 64) (h8 : c ≠ 8) (h53 : c ≠ 53) (hq : q + 45 ≤ cL c 0) (hL : cL c 0 < 10000) : ∀ m fu k I, k + m = 5 → m < fu →
    wp (f_X8_pack_5 c 0 0 fu I (nI q) (nI k)) (fun I' => Fr [(c, 0)] I I' ∧ (∀ x, (x < q + k ∨ q + 45 ≤ x) → I' c 0 0 x = I c 0 0 x) ∧ (∀ j, k ≤ j → j < 5 → I' c 0 0 (q + j) = I 53 0 0 j) ∧ I' c 0 0 (q + 5) = I 8 0 0 29 ∧ I' c 0 0 (q + 6) = I 8 0 0 30 ∧ I' c 0 0 (q + 7) = I 8 0 0 31 ∧ I' c 0 0 (q + 8) = I 8 0 0 32 ∧
      ∀ i, i < 12 → I' c 0 0 (q + 9 + i) = I 62 0 0 i ∧ I' c 0 0 (q + 21 + i) = I 63 0 0 i ∧ I' c 0 0 (q + 33 + i) = I 64 0 0 i) := by
  intro m
  induction m with
  | zero =>
    intro fu k I hk hf
    obtain ⟨g, rfl⟩ := Nat.exists_eq_succ_of_ne_zero (by omega : fu ≠ 0)
    have hk' : k = 5 := by omega
    subst hk'
    unfold f_X8_pack_5
    refine wp_pos (by decide) ?_
    rw [n_5, n_4, n_2, nI_add, nI_1, nI_add, n_3, nI_add, nI_add]
    refine wp_gd (inb_n (by omega) (by omega)) (wp_bnd (wp_gd (inb_n (by omega) (by omega)) (wp_bnd (wp_gd (inb_n (by omega) (by omega)) (wp_bnd (wp_gd (inb_n (by omega) (by omega)) (wp_bnd ?_)))))))
    rw [nI_clamp (by omega), nI_clamp (by omega), nI_clamp (by omega), nI_clamp (by omega)]
    have h8' : (8 : Nat) ≠ c := fun e => h8 e.symm
    simp only [u_c h8']
    have F : Fr [(c, 0)] I (upd4 (upd4 (upd4 (upd4 I c 0 0 (q + 5) (I 8 0 0 29)) c 0 0 (q + 5 + 1) (I 8 0 0 30)) c 0 0 (q + 5 + 2) (I 8 0 0 31)) c 0 0 (q + 5 + 3) (I 8 0 0 32)) := (((Fr.up (by simp)).tr (Fr.up (by simp))).tr (Fr.up (by simp))).tr (Fr.up (by simp))
    have u : ∀ c', c' ≠ c → upd4 (upd4 (upd4 (upd4 I c 0 0 (q + 5) (I 8 0 0 29)) c 0 0 (q + 5 + 1) (I 8 0 0 30)) c 0 0 (q + 5 + 2) (I 8 0 0 31)) c 0 0 (q + 5 + 3) (I 8 0 0 32) c' = I c' := fun c' h => by rw [u_c h, u_c h, u_c h, u_c h]
    refine wp_mono (r_pack_73 hc hq hL 12 FU 0 _ (by omega) (by unfold FU; omega)) ?_
    rintro I' ⟨F', a, b⟩
    refine ⟨F.tr F', fun x hx => ?_, fun j h1 h2 => by omega, ?_, ?_, ?_, ?_, fun i hi => ?_⟩
    · rw [a x (by omega), u_if, if_neg (by omega), u_if, if_neg (by omega), u_if, if_neg (by omega), u_if, if_neg (by omega)]
    · rw [a _ (by omega), u_if, if_neg (by omega), u_if, if_neg (by omega), u_if, if_neg (by omega), u_at]
    · rw [a _ (by omega), u_if, if_neg (by omega), u_if, if_neg (by omega), u_if, if_pos ⟨rfl, by omega⟩]
    · rw [a _ (by omega), u_if, if_neg (by omega), u_if, if_pos ⟨rfl, by omega⟩]
    · rw [a _ (by omega), u_if, if_pos ⟨rfl, by omega⟩]
    · obtain ⟨b1, b2, b3⟩ := b i (Nat.zero_le _) hi
      rw [b1, b2, b3, u 62 (fun e => hc.1 e.symm), u 63 (fun e => hc.2.1 e.symm), u 64 (fun e => hc.2.2 e.symm)]
      exact ⟨rfl, rfl, rfl⟩
  | succ m ih =>
    intro fu k I hk hf
    obtain ⟨g, rfl⟩ := Nat.exists_eq_succ_of_ne_zero (by omega : fu ≠ 0)
    unfold f_X8_pack_5
    refine wp_neg (by rw [n_5, nI_leI (by omega) (by omega)]; omega) (wp_gd (inb_n (by omega)) ?_)
    rw [nI_add q k, nI_1]
    refine wp_gd (inb_n (by omega) (by omega)) (wp_bnd ?_)
    rw [nI_clamp (by omega), nI_clamp (by omega)]
    have F : Fr [(c, 0)] I (upd4 I c 0 0 (q + k) (I 53 0 0 k)) := Fr.up (by simp)
    have u : ∀ c', c' ≠ c → upd4 I c 0 0 (q + k) (I 53 0 0 k) c' = I c' := fun c' h => u_c h
    refine wp_mono (ih g (k + 1) _ (by omega) (by omega)) ?_
    rintro I' ⟨F', a, b, c1, c2, c3, c4, c5⟩
    rw [u 8 (fun e => h8 e.symm)] at c1 c2 c3 c4
    rw [u 62 (fun e => hc.1 e.symm), u 63 (fun e => hc.2.1 e.symm), u 64 (fun e => hc.2.2 e.symm)] at c5
    refine ⟨F.tr F', fun x hx => ?_, fun j h1 h2 => ?_, c1, c2, c3, c4, c5⟩
    · rw [a x (by omega), u_if, if_neg (by omega)]
    · by_cases e : j = k
      · subst e
        rw [a _ (by omega), u_at]
      · rw [b j (by omega) h2, u 53 (fun e => h53 e.symm)]
theorem r_pack (hc : c = 65 ∨ c = 80) (hq : q + 45 ≤ cL c 0) (I : Mem) :
    wp (f_X8_pack c 0 0 I (nI q)) (fun I' => Fr [(c, 0)] I I' ∧ (∀ x, (x < q ∨ q + 45 ≤ x) → I' c 0 0 x = I c 0 0 x) ∧ pkv I I' c q) := by
  have hL : cL c 0 < 10000 := by rcases hc with rfl | rfl <;> decide
  refine wp_mono (r_pack_5 (by omega) (by omega) (by omega) hq hL 5 FU 0 I (by omega) (by unfold FU; omega)) ?_
  rintro I' ⟨F, a, b, d⟩
  exact ⟨F, fun x hx => a x (by omega), fun j hj => b j (Nat.zero_le _) hj, d⟩
/-- a packed bench is the bench -/
theorem pkv_pkd {I I' : Mem} {J : Nat} {B : Ben} (hJ : J ≤ 5) (hB : bn B ≤ 4 ∧ bnf B ≤ 4 ∧ bnl B ≤ 4) (h : RB I J B) (hp : pkv I I' c q) : pkd I' c q J B := by
  obtain ⟨x1, x2, x3, x4, x5⟩ := h
  obtain ⟨p1, p2, p3, p4, p5, p6⟩ := hp
  refine ⟨fun j hj => (p1 j (by omega)).trans (x1 j hj), p2.trans x2, p3.trans x3.1, p4.trans x4.1, p5.trans x5.1, fun k hk => ?_, fun k hk => ?_, fun k hk => ?_⟩
  · obtain ⟨y1, y2, y3⟩ := x3.2 k hk
    exact ⟨(p6 (3 * k) (by omega)).1.trans y1, (p6 (3 * k + 1) (by omega)).1.trans y2, (p6 (3 * k + 2) (by omega)).1.trans y3⟩
  · obtain ⟨y1, y2, y3⟩ := x4.2 k hk
    exact ⟨(p6 (3 * k) (by omega)).2.1.trans y1, (p6 (3 * k + 1) (by omega)).2.1.trans y2, (p6 (3 * k + 2) (by omega)).2.1.trans y3⟩
  · obtain ⟨y1, y2, y3⟩ := x5.2 k hk
    exact ⟨(p6 (3 * k) (by omega)).2.2.trans y1, (p6 (3 * k + 1) (by omega)).2.2.trans y2, (p6 (3 * k + 2) (by omega)).2.2.trans y3⟩
theorem r_keep_12 : ∀ m fu k I, k + m = 1800 → 45 ≤ k → m < fu → ∀ (I0 : Mem), Fr [(65, 0)] I0 I → (∀ x, x < 1800 → I 65 0 0 x = if x < k - 45 then I0 65 0 0 (x + 45) else I0 65 0 0 x) → ∀ {Q : Mem → Prop},
    (∀ I', Fr [(65, 0)] I0 I' → (∀ x, x < 1755 → I' 65 0 0 x = I0 65 0 0 (x + 45)) → wp (f_X8_keep_52 (upd4 I' 8 0 0 33 (I' 8 0 0 33 - 1))) Q) →
    wp (f_X8_keep_12 fu I (nI k)) Q := by
  intro m
  induction m with
  | zero =>
    intro fu k I hk h45 hf I0 F h Q hK
    obtain ⟨g, rfl⟩ := Nat.exists_eq_succ_of_ne_zero (by omega : fu ≠ 0)
    unfold f_X8_keep_12
    refine wp_pos (by rw [show (1800 : Int32) = nI 1800 from rfl, nI_leI (by omega) (by omega)]; omega) (wp_bnd ?_)
    refine hK I F (fun x hx => ?_)
    rw [h x (by omega), if_pos (by omega)]
  | succ m ih =>
    intro fu k I hk h45 hf I0 F h Q hK
    obtain ⟨g, rfl⟩ := Nat.exists_eq_succ_of_ne_zero (by omega : fu ≠ 0)
    unfold f_X8_keep_12
    refine wp_neg (by rw [show (1800 : Int32) = nI 1800 from rfl, nI_leI (by omega) (by omega)]; omega) (wp_gd (inb_n (by omega)) ?_)
    rw [n_45, pk_sub (by omega), nI_1]
    refine wp_gd (inb_n (by omega)) (wp_bnd ?_)
    rw [nI_clamp (by omega), nI_clamp (by omega)]
    refine ih g (k + 1) _ (by omega) (by omega) (by omega) I0 (F.tr (Fr.up (by simp))) (fun x hx => ?_) hK
    rw [u_if]
    by_cases e : x = k - 45
    · rw [if_pos ⟨rfl, e⟩, if_pos (by omega), h k (by omega), if_neg (by omega)]
      congr 1; omega
    · rw [if_neg (fun q => e q.2), h x hx]
      by_cases e2 : x < k - 45
      · rw [if_pos e2, if_pos (by omega)]
      · rw [if_neg e2, if_neg (by omega)]
theorem r_unpack_73 (hc : c ≠ 62 ∧ c ≠ 63 ∧ c ≠ 64) (hq : q + 45 ≤ cL c 0) (hL : cL c 0 < 10000) : ∀ m fu k I, k + m = 12 → m < fu →
    wp (f_X8_unpack_73 c 0 0 fu I (nI (q + 9)) (nI k)) (fun I' => Fr [(62, 0), (63, 0), (64, 0)] I I' ∧
      (∀ i, i < k → I' 62 0 0 i = I 62 0 0 i ∧ I' 63 0 0 i = I 63 0 0 i ∧ I' 64 0 0 i = I 64 0 0 i) ∧
      ∀ i, k ≤ i → i < 12 → I' 62 0 0 i = I c 0 0 (q + 9 + i) ∧ I' 63 0 0 i = I c 0 0 (q + 21 + i) ∧ I' 64 0 0 i = I c 0 0 (q + 33 + i)) := by
  intro m
  induction m with
  | zero =>
    intro fu k I hk hf
    obtain ⟨g, rfl⟩ := Nat.exists_eq_succ_of_ne_zero (by omega : fu ≠ 0)
    unfold f_X8_unpack_73
    refine wp_pos (by rw [n_12, nI_leI (by omega) (by omega)]; omega) (wp_some ⟨Fr.rfl, fun _ _ => ⟨rfl, rfl, rfl⟩, fun i h1 h2 => by omega⟩)
  | succ m ih =>
    intro fu k I hk hf
    obtain ⟨g, rfl⟩ := Nat.exists_eq_succ_of_ne_zero (by omega : fu ≠ 0)
    unfold f_X8_unpack_73
    refine wp_neg (by rw [n_12, nI_leI (by omega) (by omega)]; omega) ?_
    rw [n_12, n_24, nI_add, nI_add, nI_add, nI_add, nI_add, nI_1]
    refine wp_gd (inb_n (by omega) (by omega)) (wp_gd (inb_n (by omega)) (wp_bnd (wp_gd (inb_n (by omega) (by omega)) (wp_gd (inb_n (by omega)) (wp_bnd (wp_gd (inb_n (by omega) (by omega)) (wp_gd (inb_n (by omega)) (wp_bnd ?_))))))))
    rw [nI_clamp (by omega), nI_clamp (by omega), nI_clamp (by omega), nI_clamp (by omega)]
    rw [u_c (show c ≠ 62 from hc.1), u_c (show c ≠ 63 from hc.2.1), u_c (show c ≠ 62 from hc.1)]
    have F : Fr [(62, 0), (63, 0), (64, 0)] I (upd4 (upd4 (upd4 I 62 0 0 k (I c 0 0 (q + 9 + k))) 63 0 0 k (I c 0 0 (q + 9 + 12 + k))) 64 0 0 k (I c 0 0 (q + 9 + 24 + k))) := ((Fr.up (by simp)).tr (Fr.up (by simp))).tr (Fr.up (by simp))
    have uc : upd4 (upd4 (upd4 I 62 0 0 k (I c 0 0 (q + 9 + k))) 63 0 0 k (I c 0 0 (q + 9 + 12 + k))) 64 0 0 k (I c 0 0 (q + 9 + 24 + k)) c = I c := by rw [u_c hc.2.2, u_c hc.2.1, u_c hc.1]
    refine wp_mono (ih g (k + 1) _ (by omega) (by omega)) ?_
    rintro I' ⟨F', a, b⟩
    have v : ∀ i, (upd4 (upd4 (upd4 I 62 0 0 k (I c 0 0 (q + 9 + k))) 63 0 0 k (I c 0 0 (q + 9 + 12 + k))) 64 0 0 k (I c 0 0 (q + 9 + 24 + k)) 62 0 0 i = if i = k then I c 0 0 (q + 9 + k) else I 62 0 0 i) ∧ (upd4 (upd4 (upd4 I 62 0 0 k (I c 0 0 (q + 9 + k))) 63 0 0 k (I c 0 0 (q + 9 + 12 + k))) 64 0 0 k (I c 0 0 (q + 9 + 24 + k)) 63 0 0 i = if i = k then I c 0 0 (q + 9 + 12 + k) else I 63 0 0 i) ∧ (upd4 (upd4 (upd4 I 62 0 0 k (I c 0 0 (q + 9 + k))) 63 0 0 k (I c 0 0 (q + 9 + 12 + k))) 64 0 0 k (I c 0 0 (q + 9 + 24 + k)) 64 0 0 i = if i = k then I c 0 0 (q + 9 + 24 + k) else I 64 0 0 i) := by
      intro i
      rw [u_c (show (62 : Nat) ≠ 64 by decide), u_c (show (62 : Nat) ≠ 63 by decide), u_c (show (63 : Nat) ≠ 64 by decide), u_if, u_if, u_if, u_c (show (63 : Nat) ≠ 62 by decide), u_c (show (64 : Nat) ≠ 63 by decide), u_c (show (64 : Nat) ≠ 62 by decide)]
      by_cases e : i = k
      · simp [e]
      · simp [e]
    refine ⟨F.tr F', fun i hi => ?_, fun i h1 h2 => ?_⟩
    · obtain ⟨a1, a2, a3⟩ := a i (by omega)
      obtain ⟨v1, v2, v3⟩ := v i
      rw [a1, a2, a3, v1, v2, v3, if_neg (by omega), if_neg (by omega), if_neg (by omega)]; exact ⟨rfl, rfl, rfl⟩
    · by_cases e : i = k
      · subst e
        obtain ⟨a1, a2, a3⟩ := a i (by omega)
        obtain ⟨v1, v2, v3⟩ := v i
        rw [a1, a2, a3, v1, v2, v3, if_pos rfl, if_pos rfl, if_pos rfl]; exact ⟨rfl, rfl, rfl⟩
      · obtain ⟨b1, b2, b3⟩ := b i (by omega) h2
        rw [b1, b2, b3, uc]; exact ⟨rfl, rfl, rfl⟩
theorem r_unpack_5 (hc : c ≠ 62 ∧ c ≠ 63 ∧ c ≠ 64) (h8 : c ≠ 8) (h53 : c ≠ 53) (hq : q + 45 ≤ cL c 0) (hL : cL c 0 < 10000) : ∀ m fu k I, k + m = 5 → m < fu →
    wp (f_X8_unpack_5 c 0 0 fu I (nI q) (nI k)) (fun I' => Fr [(8, 0), (53, 0), (62, 0), (63, 0), (64, 0)] I I' ∧ (∀ f, f < 29 ∨ 32 < f → I' 8 0 0 f = I 8 0 0 f) ∧
      (∀ j, j < k → I' 53 0 0 j = I 53 0 0 j) ∧ (∀ j, k ≤ j → j < 5 → I' 53 0 0 j = I c 0 0 (q + j)) ∧ I' 8 0 0 29 = I c 0 0 (q + 5) ∧ I' 8 0 0 30 = I c 0 0 (q + 6) ∧ I' 8 0 0 31 = I c 0 0 (q + 7) ∧ I' 8 0 0 32 = I c 0 0 (q + 8) ∧
      ∀ i, i < 12 → I' 62 0 0 i = I c 0 0 (q + 9 + i) ∧ I' 63 0 0 i = I c 0 0 (q + 21 + i) ∧ I' 64 0 0 i = I c 0 0 (q + 33 + i)) := by
  intro m
  induction m with
  | zero =>
    intro fu k I hk hf
    obtain ⟨g, rfl⟩ := Nat.exists_eq_succ_of_ne_zero (by omega : fu ≠ 0)
    have hk' : k = 5 := by omega
    subst hk'
    unfold f_X8_unpack_5
    refine wp_pos (by decide) ?_
    rw [n_5, n_4, n_2, nI_add, nI_1, nI_add, n_3, nI_add, nI_add]
    refine wp_gd (inb_n (by omega) (by omega)) (wp_bnd (wp_gd (inb_n (by omega) (by omega)) (wp_bnd (wp_gd (inb_n (by omega) (by omega)) (wp_bnd (wp_gd (inb_n (by omega) (by omega)) (wp_bnd ?_)))))))
    rw [nI_clamp (by omega), nI_clamp (by omega), nI_clamp (by omega), nI_clamp (by omega)]
    simp only [u_c h8]
    have F : Fr [(8, 0), (53, 0), (62, 0), (63, 0), (64, 0)] I (upd4 (upd4 (upd4 (upd4 I 8 0 0 29 (I c 0 0 (q + 5))) 8 0 0 30 (I c 0 0 (q + 5 + 1))) 8 0 0 31 (I c 0 0 (q + 5 + 2))) 8 0 0 32 (I c 0 0 (q + 5 + 3))) := (((Fr.up (by simp)).tr (Fr.up (by simp))).tr (Fr.up (by simp))).tr (Fr.up (by simp))
    have u : ∀ c', c' ≠ 8 → upd4 (upd4 (upd4 (upd4 I 8 0 0 29 (I c 0 0 (q + 5))) 8 0 0 30 (I c 0 0 (q + 5 + 1))) 8 0 0 31 (I c 0 0 (q + 5 + 2))) 8 0 0 32 (I c 0 0 (q + 5 + 3)) c' = I c' := fun c' h => by rw [u_c h, u_c h, u_c h, u_c h]
    refine wp_mono (r_unpack_73 hc hq hL 12 FU 0 _ (by omega) (by unfold FU; omega)) ?_
    rintro I' ⟨F', _, b⟩
    have e8 := F'.g (c := 8) (z := 0) (by simp)
    have e53 := F'.g (c := 53) (z := 0) (by simp)
    refine ⟨F.tr (F'.sub (by simp)), fun f hf => ?_, fun j hj => ?_, fun j h1 h2 => by omega, ?_, ?_, ?_, ?_, fun i hi => ?_⟩
    · rw [e8, u_if, if_neg (by omega), u_if, if_neg (by omega), u_if, if_neg (by omega), u_if, if_neg (by omega)]
    · rw [e53, u 53 (by omega)]
    · rw [e8, u_if, if_neg (by omega), u_if, if_neg (by omega), u_if, if_neg (by omega), u_at]
    · rw [e8, u_if, if_neg (by omega), u_if, if_neg (by omega), u_at]
    · rw [e8, u_if, if_neg (by omega), u_at]
    · rw [e8, u_at]
    · obtain ⟨b1, b2, b3⟩ := b i (Nat.zero_le _) hi
      rw [b1, b2, b3, u c h8]; exact ⟨rfl, rfl, rfl⟩
  | succ m ih =>
    intro fu k I hk hf
    obtain ⟨g, rfl⟩ := Nat.exists_eq_succ_of_ne_zero (by omega : fu ≠ 0)
    unfold f_X8_unpack_5
    refine wp_neg (by rw [n_5, nI_leI (by omega) (by omega)]; omega) ?_
    rw [nI_add q k, nI_1]
    refine wp_gd (inb_n (by omega) (by omega)) (wp_gd (inb_n (by omega)) (wp_bnd ?_))
    rw [nI_clamp (by omega), nI_clamp (by omega)]
    have F : Fr [(8, 0), (53, 0), (62, 0), (63, 0), (64, 0)] I (upd4 I 53 0 0 k (I c 0 0 (q + k))) := Fr.up (by simp)
    have u : ∀ c', c' ≠ 53 → upd4 I 53 0 0 k (I c 0 0 (q + k)) c' = I c' := fun c' h => u_c h
    refine wp_mono (ih g (k + 1) _ (by omega) (by omega)) ?_
    rintro I' ⟨F', a0, a, b, c1, c2, c3, c4, c5⟩
    rw [u 8 (by omega)] at a0
    rw [u c h53] at b c1 c2 c3 c4 c5
    refine ⟨F.tr F', a0, fun j hj => ?_, fun j h1 h2 => ?_, c1, c2, c3, c4, c5⟩
    · rw [a j (by omega), u_if, if_neg (by omega)]
    · by_cases e : j = k
      · subst e
        rw [a _ (by omega), u_at]
      · exact b j (by omega) h2
theorem r_unpack (hc : c = 65 ∨ c = 80) (hq : q + 45 ≤ cL c 0) {I : Mem} {J : Nat} {S : Ben} (hJ : J ≤ 5) (hB : bn S ≤ 4 ∧ bnf S ≤ 4 ∧ bnl S ≤ 4) (h : pkd I c q J S) :
    wp (f_X8_unpack c 0 0 I (nI q)) (fun I' => Fr [(8, 0), (53, 0), (62, 0), (63, 0), (64, 0)] I I' ∧ (∀ f, f < 29 ∨ 32 < f → I' 8 0 0 f = I 8 0 0 f) ∧ RB I' J S) := by
  have hL : cL c 0 < 10000 := by rcases hc with rfl | rfl <;> decide
  obtain ⟨p1, p2, p3, p4, p5, p6, p7, p8⟩ := h
  refine wp_mono (r_unpack_5 (by omega) (by omega) (by omega) hq hL 5 FU 0 I (by omega) (by unfold FU; omega)) ?_
  rintro I' ⟨F, a0, _, b, c1, c2, c3, c4, c5⟩
  refine ⟨F, a0, fun j hj => (b j (Nat.zero_le _) (by omega)).trans (p1 j hj), c1.trans p2, ⟨c2.trans p3, fun k hk => ?_⟩, ⟨c3.trans p4, fun k hk => ?_⟩, ⟨c4.trans p5, fun k hk => ?_⟩⟩
  · obtain ⟨y1, y2, y3⟩ := p6 k hk
    exact ⟨(c5 (3 * k) (by omega)).1.trans y1, (c5 (3 * k + 1) (by omega)).1.trans y2, (c5 (3 * k + 2) (by omega)).1.trans y3⟩
  · obtain ⟨y1, y2, y3⟩ := p7 k hk
    exact ⟨(c5 (3 * k) (by omega)).2.1.trans y1, (c5 (3 * k + 1) (by omega)).2.1.trans y2, (c5 (3 * k + 2) (by omega)).2.1.trans y3⟩
  · obtain ⟨y1, y2, y3⟩ := p8 k hk
    exact ⟨(c5 (3 * k) (by omega)).2.2.trans y1, (c5 (3 * k + 1) (by omega)).2.2.trans y2, (c5 (3 * k + 2) (by omega)).2.2.trans y3⟩
end
