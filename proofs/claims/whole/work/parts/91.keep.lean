/-! an act is kept: both sides -/
def nnE (E : Bx) : Nat := if xna E < 40 then xna E + 1 else 40
def hhE (E : Bx) (k : Nat) : Ben := if xna E < 40 then xh E k else xh E (k + 1)
def shE (E : Bx) (f : Nat → Int32) (k : Nat) : Int32 := if xna E < 40 then f k else f (k + 1)
def pushE (E : Bx) (B' : Ben) (k w b : Int32) : Bx :=
  ((fun i => if i = nnE E then B' else hhE E i), nnE E, (fun i => if i = nnE E - 1 then k else shE E (xa1 E) i), (fun i => if i = nnE E - 1 then w else shE E (xa2 E) i), (fun i => if i = nnE E - 1 then b else shE E (xa3 E) i), xsn E, xs1 E, xs2 E, xs3 E, xst E)
def setE (a : Abs) (E : Bx) : Abs := (yL a, E, yhi a, yV a, ytn a, ytb a, yfp a)
theorem pushE_B (E : Bx) (B' : Ben) (k w b : Int32) : xB (pushE E B' k w b) = B' := if_pos rfl
theorem hhE_last {E : Bx} (h : xna E ≤ 40) : hhE E (nnE E - 1) = xB E := by
  unfold hhE nnE xB
  by_cases e : xna E < 40
  · rw [if_pos e, if_pos e, Nat.add_sub_cancel]
  · rw [if_neg e, if_neg e, show xna E = 40 by omega]
theorem nnE_b {E : Bx} (h : xna E ≤ 40) : 1 ≤ nnE E ∧ nnE E ≤ 40 := by unfold nnE; split <;> omega
theorem pushE_ok {L : Land} {E : Bx} {B' : Ben} {k w b : Int32} (h : XOK L E) (hB : BOK L B' ∧ bn B' ≤ 4 ∧ bnl B' ≤ 4) (hu : uRel (lJ L) k w b (xB E) B') : XOK L (pushE E B' k w b) := by
  obtain ⟨h1, h2, h3, h4, h5⟩ := h
  have hn := nnE_b h2
  refine ⟨fun i hi => ?_, hn.2, fun i hi => ?_, h4, h5⟩
  · have hi' : i ≤ nnE E := hi
    show BOK L (if i = nnE E then B' else hhE E i) ∧ bn (if i = nnE E then B' else hhE E i) ≤ 4 ∧ bnl (if i = nnE E then B' else hhE E i) ≤ 4
    by_cases e : i = nnE E
    · rw [if_pos e]; exact hB
    · rw [if_neg e]
      unfold hhE
      unfold nnE at hi' e
      by_cases q : xna E < 40
      · rw [if_pos q]; rw [if_pos q] at hi' e; exact h1 i (by omega)
      · rw [if_neg q]; rw [if_neg q] at hi' e; exact h1 (i + 1) (by omega)
  · have hi' : i < nnE E := hi
    show uRel (lJ L) (if i = nnE E - 1 then k else shE E (xa1 E) i) (if i = nnE E - 1 then w else shE E (xa2 E) i) (if i = nnE E - 1 then b else shE E (xa3 E) i) (if i = nnE E then B' else hhE E i) (if i + 1 = nnE E then B' else hhE E (i + 1))
    rw [if_neg (by omega : ¬ i = nnE E)]
    by_cases e : i = nnE E - 1
    · rw [if_pos e, if_pos e, if_pos e, if_pos (by omega), e, hhE_last h2]; exact hu
    · rw [if_neg e, if_neg e, if_neg e, if_neg (by omega)]
      unfold hhE shE
      unfold nnE at hi' e
      by_cases q : xna E < 40
      · rw [if_pos q, if_pos q, if_pos q, if_pos q, if_pos q]; rw [if_pos q] at hi' e; exact h3 i (by omega)
      · rw [if_neg q, if_neg q, if_neg q, if_neg q, if_neg q]; rw [if_neg q] at hi' e; exact h3 (i + 1) (by omega)
/-! rows of the class -/
def Lrow (z : Nat) : List (Nat × Nat) := [(6, z), (44, z), (45, z), (46, z)]
theorem c_add11 {I : Mem} {z n : Nat} {a1 a2 a3 : Nat → Int32} (h : cRw I z n a1 a2 a3) (hn : n < rowsLen z) (v1 v2 v3 : Int32) :
    wp (f_X6_add_11 z I v1 v2 v3) (fun I' => cRw I' z (n + 1) (fun i => if i = n then v1 else a1 i) (fun i => if i = n then v2 else a2 i) (fun i => if i = n then v3 else a3 i) ∧ Fr (Lrow z) I I') := by
  obtain ⟨h1, h2, h3⟩ := h
  have h40 := rl (b := z)
  unfold f_X6_add_11
  rw [h1]
  refine wp_gd (inb_n hn (by omega)) (wp_bnd ?_)
  rw [u_c (show (6 : Nat) ≠ 44 by decide), h1]
  refine wp_gd (inb_n hn (by omega)) (wp_bnd ?_)
  rw [u_c (show (6 : Nat) ≠ 45 by decide), u_c (show (6 : Nat) ≠ 44 by decide), h1]
  refine wp_gd (inb_n hn (by omega)) (wp_bnd (wp_bnd (wp_some ?_)))
  rw [nI_clamp (by omega)]
  refine ⟨⟨?_, by omega, fun k hk => ?_⟩, (((Fr.up (by simp [Lrow])).tr (Fr.up (by simp [Lrow]))).tr (Fr.up (by simp [Lrow]))).tr (Fr.up (by simp [Lrow]))⟩
  · rw [u_at, u_c (show (6 : Nat) ≠ 46 by decide), u_c (show (6 : Nat) ≠ 45 by decide), u_c (show (6 : Nat) ≠ 44 by decide), h1, nI_1]
  · rw [u_c (show (44 : Nat) ≠ 6 by decide), u_c (show (44 : Nat) ≠ 46 by decide), u_c (show (44 : Nat) ≠ 45 by decide), u_if, u_c (show (45 : Nat) ≠ 6 by decide), u_c (show (45 : Nat) ≠ 46 by decide), u_if, u_c (show (45 : Nat) ≠ 44 by decide), u_c (show (46 : Nat) ≠ 6 by decide), u_if, u_c (show (46 : Nat) ≠ 45 by decide), u_c (show (46 : Nat) ≠ 44 by decide)]
    by_cases e : k = n
    · simp [e]
    · simp only [e, and_false, if_false]
      exact h3 k (by omega)
theorem c_full {I : Mem} {z n : Nat} {a1 a2 a3 : Nat → Int32} (h : cRw I z n a1 a2 a3) : f_X6_isFull I z = some (bI (!decide (n < rowsLen z))) := by
  have h40 := rl (b := z)
  have := h.2.1
  unfold f_X6_isFull
  rw [h.1, show Int32.ofNat (rowsLen z) = nI (rowsLen z) from rfl]
  by_cases e : n < rowsLen z
  · rw [if_pos (by rw [nI_ltI (by omega) (by omega)]; exact e), decide_eq_true e]; rfl
  · rw [if_neg (by rw [nI_ltI (by omega) (by omega)]; exact e), decide_eq_false e]; rfl
theorem upR_at {I : Mem} {c z r : Nat} {f : Nat → Int32} : updR I c z r f c z r = f := if_pos ⟨rfl, rfl, rfl⟩
theorem upR_c {I : Mem} {c z r c' : Nat} {f : Nat → Int32} (h : c' ≠ c) : updR I c z r f c' = I c' := by
  funext z' r'
  unfold updR
  rw [if_neg (fun q => h q.1)]
theorem c_drop {I : Mem} {z n : Nat} {a1 a2 a3 : Nat → Int32} (h : cRw I z n a1 a2 a3) (hn : 1 ≤ n) :
    wp (f_X6_dropFirst z I) (fun I' => cRw I' z (n - 1) (fun i => a1 (i + 1)) (fun i => a2 (i + 1)) (fun i => a3 (i + 1)) ∧ Fr (Lrow z) I I') := by
  obtain ⟨h1, h2, h3⟩ := h
  have h40 := rl (b := z)
  have cp : cpOK (1 : Int32) (0 : Int32) (nI (n - 1)) (rowsLen z) (rowsLen z) = true := by
    unfold cpOK
    rw [nI_toInt (by omega), show (1 : Int32).toInt = 1 from rfl, show (0 : Int32).toInt = 0 from rfl]
    exact decide_eq_true (by omega)
  have e1 : (1 : Int32).toNatClampNeg = 1 := rfl
  have e0 : (0 : Int32).toNatClampNeg = 0 := rfl
  unfold f_X6_dropFirst
  rw [h1]
  refine wp_neg (by rw [n_0, nI_leI (by omega) (by omega)]; omega) (wp_bnd ?_)
  rw [nI_p1 hn, u_at]
  refine wp_gd cp (wp_bnd ?_)
  rw [upR_c (show (6 : Nat) ≠ 44 by decide), u_at]
  refine wp_gd cp (wp_bnd ?_)
  rw [upR_c (show (6 : Nat) ≠ 45 by decide), upR_c (show (6 : Nat) ≠ 44 by decide), u_at]
  refine wp_gd cp (wp_bnd (wp_some ?_))
  rw [e1, e0, nI_clamp (by omega)]
  refine ⟨⟨?_, by omega, fun k hk => ?_⟩, (((Fr.up (by simp [Lrow])).tr (Fr.upR (by simp [Lrow]))).tr (Fr.upR (by simp [Lrow]))).tr (Fr.upR (by simp [Lrow]))⟩
  · rw [upR_c (show (6 : Nat) ≠ 46 by decide), upR_c (show (6 : Nat) ≠ 45 by decide), upR_c (show (6 : Nat) ≠ 44 by decide), u_at]
  · obtain ⟨q1, q2, q3⟩ := h3 (k + 1) (by omega)
    have cx : ∀ f : Nat → Int32, va_cpy f f 1 0 (n - 1) k = f (k + 1) := by
      intro f
      rw [pk_cpy_in (Nat.zero_le _) (by omega)]
      congr 1; omega
    rw [upR_c (show (44 : Nat) ≠ 46 by decide), upR_c (show (44 : Nat) ≠ 45 by decide), upR_at, cx, u_c (show (44 : Nat) ≠ 6 by decide),
      upR_c (show (45 : Nat) ≠ 46 by decide), upR_at, cx, upR_c (show (45 : Nat) ≠ 44 by decide), u_c (show (45 : Nat) ≠ 6 by decide),
      upR_at, cx, upR_c (show (46 : Nat) ≠ 45 by decide), upR_c (show (46 : Nat) ≠ 44 by decide), u_c (show (46 : Nat) ≠ 6 by decide)]
    exact ⟨q1, q2, q3⟩
theorem cRw_cong {I : Mem} {z n : Nat} {a1 a2 a3 b1 b2 b3 : Nat → Int32} (h : cRw I z n a1 a2 a3) (e : ∀ k, k < n → a1 k = b1 k ∧ a2 k = b2 k ∧ a3 k = b3 k) : cRw I z n b1 b2 b3 :=
  ⟨h.1, h.2.1, fun k hk => ⟨(h.2.2 k hk).1.trans (e k hk).1, (h.2.2 k hk).2.1.trans (e k hk).2.1, (h.2.2 k hk).2.2.trans (e k hk).2.2⟩⟩
theorem c_acts {I : Mem} {E : Bx} {B' : Ben} {k w b : Int32} (hna : xna E ≤ 40) (h : cRw I 3 (xna E) (xa1 E) (xa2 E) (xa3 E)) :
    wp (f_X6_add 3 I k w b) (fun I' => cRw I' 3 (nnE E) (xa1 (pushE E B' k w b)) (xa2 (pushE E B' k w b)) (xa3 (pushE E B' k w b)) ∧ Fr (Lrow 3) I I') := by
  have r40 : rowsLen 3 = 40 := rfl
  unfold f_X6_add
  rw [c_full h, Option.bind_some, r40]
  by_cases q : xna E < 40
  · rw [decide_eq_true q]
    refine wp_pos rfl ?_
    refine wp_mono (c_add11 h (by rw [r40]; exact q) k w b) ?_
    rintro I' ⟨c, F⟩
    have en : nnE E = xna E + 1 := if_pos q
    rw [en]
    refine ⟨cRw_cong c (fun i hi => ?_), F⟩
    show _ = (if i = nnE E - 1 then k else shE E (xa1 E) i) ∧ _ = (if i = nnE E - 1 then w else shE E (xa2 E) i) ∧ _ = (if i = nnE E - 1 then b else shE E (xa3 E) i)
    unfold shE
    rw [en, Nat.add_sub_cancel, if_pos q, if_pos q, if_pos q]; exact ⟨rfl, rfl, rfl⟩
  · rw [decide_eq_false q]
    refine wp_neg (by decide) ?_
    have e40 : xna E = 40 := by omega
    refine wp_bind (c_drop h (by omega)) ?_
    rintro I1 ⟨c1, F1⟩
    refine wp_mono (c_add11 c1 (by rw [r40]; omega) k w b) ?_
    rintro I' ⟨c, F⟩
    have en : nnE E = 40 := if_neg q
    rw [en]
    rw [e40] at c
    refine ⟨cRw_cong c (fun i hi => ?_), F1.tr F⟩
    show _ = (if i = nnE E - 1 then k else shE E (xa1 E) i) ∧ _ = (if i = nnE E - 1 then w else shE E (xa2 E) i) ∧ _ = (if i = nnE E - 1 then b else shE E (xa3 E) i)
    unfold shE
    rw [en, if_neg q, if_neg q, if_neg q]; exact ⟨rfl, rfl, rfl⟩
/-! the reference keeps -/
theorem pkd_eq {I I' : Mem} {c q q' J : Nat} {S : Ben} (hJ : J ≤ 5) (hS : bn S ≤ 4 ∧ bnf S ≤ 4 ∧ bnl S ≤ 4) (h : pkd I c q J S) (he : ∀ x, x < 45 → I' c 0 0 (q' + x) = I c 0 0 (q + x)) : pkd I' c q' J S := by
  obtain ⟨p1, p2, p3, p4, p5, p6, p7, p8⟩ := h
  refine ⟨fun j hj => ?_, ?_, ?_, ?_, ?_, fun k hk => ?_, fun k hk => ?_, fun k hk => ?_⟩
  · rw [he j (by omega)]; exact p1 j hj
  · rw [he 5 (by omega)]; exact p2
  · rw [he 6 (by omega)]; exact p3
  · rw [he 7 (by omega)]; exact p4
  · rw [he 8 (by omega)]; exact p5
  · rw [show q' + 9 + 3 * k = q' + (9 + 3 * k) by omega, show q' + 9 + (3 * k + 1) = q' + (9 + (3 * k + 1)) by omega, show q' + 9 + (3 * k + 2) = q' + (9 + (3 * k + 2)) by omega, he _ (by omega), he _ (by omega), he _ (by omega)]
    have := p6 k hk
    rwa [show q + 9 + 3 * k = q + (9 + 3 * k) by omega, show q + 9 + (3 * k + 1) = q + (9 + (3 * k + 1)) by omega, show q + 9 + (3 * k + 2) = q + (9 + (3 * k + 2)) by omega] at this
  · rw [show q' + 21 + 3 * k = q' + (21 + 3 * k) by omega, show q' + 21 + (3 * k + 1) = q' + (21 + (3 * k + 1)) by omega, show q' + 21 + (3 * k + 2) = q' + (21 + (3 * k + 2)) by omega, he _ (by omega), he _ (by omega), he _ (by omega)]
    have := p7 k hk
    rwa [show q + 21 + 3 * k = q + (21 + 3 * k) by omega, show q + 21 + (3 * k + 1) = q + (21 + (3 * k + 1)) by omega, show q + 21 + (3 * k + 2) = q + (21 + (3 * k + 2)) by omega] at this
  · rw [show q' + 33 + 3 * k = q' + (33 + 3 * k) by omega, show q' + 33 + (3 * k + 1) = q' + (33 + (3 * k + 1)) by omega, show q' + 33 + (3 * k + 2) = q' + (33 + (3 * k + 2)) by omega, he _ (by omega), he _ (by omega), he _ (by omega)]
    have := p8 k hk
    rwa [show q + 33 + 3 * k = q + (33 + 3 * k) by omega, show q + 33 + (3 * k + 1) = q + (33 + (3 * k + 1)) by omega, show q + 33 + (3 * k + 2) = q + (33 + (3 * k + 2)) by omega] at this
theorem r_keep_52 {I : Mem} {J n : Nat} {B : Ben} {hh : Nat → Ben} (hJ : J ≤ 5) (hn : n < 40) (hB : bn B ≤ 4 ∧ bnf B ≤ 4 ∧ bnl B ≤ 4) (hH : ∀ k, k < n → bn (hh k) ≤ 4 ∧ bnf (hh k) ≤ 4 ∧ bnl (hh k) ≤ 4) (h33 : I 8 0 0 33 = nI n) (hb : RB I J B) (hp : ∀ k, k < n → pkd I 65 (45 * k) J (hh k)) (hl : hh n = B) :
    wp (f_X8_keep_52 I) (fun I' => Fr [(8, 0), (65, 0)] I I' ∧ (∀ f, f ≠ 33 → I' 8 0 0 f = I 8 0 0 f) ∧ I' 8 0 0 33 = nI (n + 1) ∧ ∀ k, k < n + 1 → pkd I' 65 (45 * k) J (hh k)) := by
  have c65 : cL 65 0 = 1800 := rfl
  unfold f_X8_keep_52
  rw [h33, n_45, pk_mul]
  refine wp_bind (r_pack (Or.inl rfl) (by rw [c65]; omega) I) ?_
  rintro I1 ⟨F1, o1, p1⟩
  refine wp_bnd (wp_some ?_)
  have e8 : I1 8 0 = I 8 0 := F1.g (by simp)
  rw [e8, h33, nI_1]
  refine ⟨(F1.sub (by simp)).tr (Fr.up (by simp)), fun f hf => by rw [u_if, if_neg (fun q => hf q.2), e8], u_at, fun k hk => ?_⟩
  by_cases e : k = n
  · subst e
    rw [hl]
    refine pkd_eq hJ hB (pkv_pkd hJ hB hb p1) (fun x hx => by rw [u_c (by decide)])
  · refine pkd_eq hJ (hH k (by omega)) (hp k (by omega)) (fun x hx => ?_)
    rw [u_c (by decide), o1 _ (by omega)]
theorem r_keep {I : Mem} {L : Land} {E : Bx} (hL : LOK L) (hX : XOK L E) (hR : RX I (lJ L) E) :
    wp (f_X8_keep I) (fun I' => Fr [(8, 0), (65, 0)] I I' ∧ (∀ f, f ≠ 33 → I' 8 0 0 f = I 8 0 0 f) ∧ I' 8 0 0 33 = nI (nnE E) ∧ ∀ k, k < nnE E → pkd I' 65 (45 * k) (lJ L) (hhE E k)) := by
  have hJ5 := hL.2.1
  obtain ⟨x1, x2, x3, x4, x5⟩ := hX
  obtain ⟨r1, r2, r3, _⟩ := hR
  have sz : ∀ k, k ≤ xna E → bn (xh E k) ≤ 4 ∧ bnf (xh E k) ≤ 4 ∧ bnl (xh E k) ≤ 4 := fun k hk => ⟨(x1 k hk).2.1, (x1 k hk).1.2.1, (x1 k hk).2.2⟩
  unfold f_X8_keep
  rw [r2]
  by_cases q : xna E < 40
  · refine wp_neg (by rw [n_40, nI_eq (by omega) (by omega)]; omega) ?_
    have en : nnE E = xna E + 1 := if_pos q
    have eh : ∀ k, hhE E k = xh E k := fun k => if_pos q
    rw [en]
    refine wp_mono (r_keep_52 (hh := hhE E) hJ5 q (sz _ (Nat.le_refl _)) (fun k hk => by rw [eh]; exact sz k (by omega)) r2 r1 (fun k hk => by rw [eh]; exact r3 k hk) (by rw [eh])) ?_
    rintro I' h
    exact h
  · refine wp_pos (by rw [n_40, nI_eq (by omega) (by omega)]; omega) ?_
    have e40 : xna E = 40 := by omega
    have en : nnE E = 39 + 1 := if_neg q
    have eh : ∀ k, hhE E k = xh E (k + 1) := fun k => if_neg q
    rw [en, n_45]
    refine r_keep_12 1755 FU 45 I (by omega) (by omega) (by unfold FU; omega) I Fr.rfl (fun x hx => by rw [if_neg (by omega)]) ?_
    intro I1 F1 s1
    have e8 : I1 8 0 = I 8 0 := F1.g (by simp)
    have F2 : Fr [(8, 0), (65, 0)] I (upd4 I1 8 0 0 33 (I1 8 0 0 33 - 1)) := (F1.sub (by simp)).tr (Fr.up (by simp))
    have f2 : ∀ f, f ≠ 33 → upd4 I1 8 0 0 33 (I1 8 0 0 33 - 1) 8 0 0 f = I 8 0 0 f := fun f hf => by rw [u_if, if_neg (fun q => hf q.2), e8]
    have rb : RB (upd4 I1 8 0 0 33 (I1 8 0 0 33 - 1)) (lJ L) (xB E) := by
      unfold RB rR at *
      rw [F2.g (c := 53) (z := 0) (by simp), F2.g (c := 62) (z := 0) (by simp), F2.g (c := 63) (z := 0) (by simp), F2.g (c := 64) (z := 0) (by simp), f2 29 (by omega), f2 30 (by omega), f2 31 (by omega), f2 32 (by omega)]
      exact r1
    refine wp_mono (r_keep_52 (n := 39) (B := xB E) (hh := hhE E) hJ5 (by omega) (sz _ (Nat.le_refl _)) (fun k hk => by rw [eh]; exact sz (k + 1) (by omega)) ?_ rb (fun k hk => ?_) (by rw [eh]; unfold xB; rw [e40])) ?_
    · rw [u_at, e8, r2, e40]; rfl
    · rw [eh]
      refine pkd_eq hJ5 (sz (k + 1) (by omega)) (r3 (k + 1) (by omega)) (fun x hx => ?_)
      rw [u_c (by decide), s1 _ (by omega)]
      congr 1; omega
    · rintro I' ⟨F, f, p⟩
      exact ⟨F2.tr F, fun g hg => (f g hg).trans (f2 g hg), p⟩
