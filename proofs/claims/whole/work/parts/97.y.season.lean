/-! pairs of calls: season (end) -/
def sel3 (v : Int32) (x : Int32 × Int32 × Int32) : Int32 := if v = 0 then x.1 else if v = 1 then x.2.1 else x.2.2
def sea (a : Abs) : Nat → Nat → Int32 → Int32 × Int32 × Int32 → Int32 × Int32 × Int32
  | 0, _, _, x => x
  | m + 1, k, s, x => sea a m (k + 1) (yS (lT (yL a)) s) (x.1 + nI (yN a s), if k = 0 then nI (yN a s) else jmin x.2.1 (nI (yN a s)), if yN a s = lC (yL a) then x.2.2 + 1 else x.2.2)
theorem yN_b {a : Abs} {s : Int32} : yN a s ≤ lC (yL a) := cn_le _ _ _
section
variable {I : Mem} {P : PMem} {l : Nat} {a : Abs} {O : Nat → Int64} {D : Bool} {n : Nat}
theorem c_sea (hA : AOK a) {N : Nat} (hN : N ≤ 40) {v3 : Int32} : ∀ m fu k I s x f u f', k + m = N → m < fu → seT I P l a s → (k = 0 ∧ m ≠ 0 → f = 6) → (k ≠ 0 ∨ m = 0 → f = f') →
    wp (f_X7_season_78 fu I P (nI N) v3 x f u (nI k)) (fun y => ∃ I2, y = (sel3 v3 (sea a m k s (x, f', u)), I2, P) ∧ GC I2 P l a ∧ Kc I I2) := by
  have hC6 := hA.1.2.2.1
  intro m
  induction m with
  | zero =>
    intro fu k I s x f u f' hk hf h h1 h2
    obtain ⟨g, rfl⟩ := Nat.exists_eq_succ_of_ne_zero (by omega : fu ≠ 0)
    have ff := h2 (Or.inr rfl)
    subst ff
    unfold f_X7_season_78
    refine wp_pos (nI_le (by omega) (by omega)) ?_
    unfold sea sel3
    refine wp_ite (fun q => wp_some ⟨I, by rw [if_pos q], h.1, Kc.rfl⟩) (fun q => wp_ite (fun q2 => wp_some ⟨I, by rw [if_neg q, if_pos q2], h.1, Kc.rfl⟩) (fun q2 => wp_some ⟨I, by rw [if_neg q, if_neg q2], h.1, Kc.rfl⟩))
  | succ m ih =>
    intro fu k I s x f u f' hk hf h h1 h2
    obtain ⟨g, rfl⟩ := Nat.exists_eq_succ_of_ne_zero (by omega : fu ≠ 0)
    unfold f_X7_season_78
    refine wp_neg (nI_ge (by omega) (by omega)) (wp_bind (c_year hA h) ?_)
    rintro ⟨y, I1⟩ ⟨y1, h3, k3⟩
    have y1' : y = nI (yN a s) := y1
    subst y1'
    have b := yN_b (a := a) (s := s)
    have h3' : seT I1 P l a (yS (lT (yL a)) s) := h3
    have fm : jmin f (nI (yN a s)) = if k = 0 then nI (yN a s) else jmin f' (nI (yN a s)) := by
      by_cases q : k = 0
      · rw [if_pos q, h1 ⟨q, by omega⟩, show (6 : Int32) = nI 6 from rfl, jmin_n (by omega) (by omega)]; congr 1; omega
      · rw [if_neg q, h2 (Or.inl q)]
    have e13 : I1 3 (P 7 0 0 2) 0 13 = nI (lC (yL a)) := by rw [h3'.1.1.1]; exact h3'.1.2.1.2.2.1
    refine wp_bnd (wp_bnd (wp_gd (dlt (by rw [h.1.1.1]; exact h.1.1.2.1)) ?_))
    show wp (if nI (yN a s) = I1 3 (P 7 0 0 2) 0 13 then bnd (u + 1) fun x4 => f_X7_season_78 g I1 P (nI N) v3 (x + nI (yN a s)) (jmin f (nI (yN a s))) x4 (nI k + 1) else bnd (u + 0) fun x3 => f_X7_season_78 g I1 P (nI N) v3 (x + nI (yN a s)) (jmin f (nI (yN a s))) x3 (nI k + 1)) _
    have go : ∀ u', u' = (if yN a s = lC (yL a) then u + 1 else u) → wp (f_X7_season_78 g I1 P (nI N) v3 (x + nI (yN a s)) (jmin f (nI (yN a s))) u' (nI k + 1)) (fun y => ∃ I2, y = (sel3 v3 (sea a (m + 1) k s (x, f', u)), I2, P) ∧ GC I2 P l a ∧ Kc I I2) := by
      intro u' hu'
      rw [nI_1]
      refine wp_mono (ih g (k + 1) I1 (yS (lT (yL a)) s) _ _ u' (if k = 0 then nI (yN a s) else jmin f' (nI (yN a s))) (by omega) (by omega) h3' (fun q => by omega) (fun _ => fm)) ?_
      rintro y ⟨I2, y1, y2, y3⟩
      refine ⟨I2, ?_, y2, Kc.tr k3 y3⟩
      rw [y1, hu', sea]
    refine wp_ite (fun q => wp_bnd (go _ ?_)) (fun q => wp_bnd (go _ ?_))
    · rw [e13, nI_eq (by omega) (by omega)] at q; rw [if_pos q]
    · rw [e13, nI_eq (by omega) (by omega)] at q; rw [if_neg q, Int32.add_zero]
/-! the reference -/
/-- between two years -/
def seR (I : Mem) (a : Abs) (s : Int32) : Prop := sR I a ∧ I 8 0 0 53 = s
theorem r_putF {R : Mem} {i : Nat} (hi : i < 6) (v2 v3 v4 : Int32) : f_X8_putRow 64 0 0 R (nI i) v2 v3 v4 = some (upd4 (upd4 (upd4 R 64 0 0 (3 * i) v2) 64 0 0 (3 * i + 1) v3) 64 0 0 (3 * i + 2) v4) := by
  unfold f_X8_putRow
  have c : cL 64 0 = 18 := rfl
  rw [c, n_3, pk_mul, nI_1, n_2, nI_add, nI_clamp (by omega), nI_clamp (by omega), nI_clamp (by omega), gd_t (inb_n (by omega)), bnd_e, gd_t (inb_n (by omega)), bnd_e, gd_t (inb_n (by omega)), bnd_e]
/-- the reference within a year: its floods are those of B -/
def seM (I : Mem) (a : Abs) (B : Ben) (s : Int32) (R0 : Mem) : Prop :=
  LdR I (yL a) ∧ RB I (lJ (yL a)) B ∧ I 8 0 0 53 = s ∧ (∀ f, f ≠ 32 → f ≠ 53 → I 8 0 0 f = R0 8 0 0 f) ∧ (∀ c, c ≠ 8 → c ≠ 64 → I c = R0 c) ∧ ∀ i, i < 3 * bnl (xB (yE a)) → I 64 0 0 i = R0 64 0 0 i
theorem r_fl {R R0 : Mem} {B : Ben} {s : Int32} (hA : AOK a) (hT : 0 < lT (yL a)) (hb : bnl B < 6) (hb0 : bnl (xB (yE a)) ≤ bnl B) (h : seM R a B s R0) :
    ∃ y1 y2 y3 y4, f_X8_drawOf R (R 50 0 0 0) = some y1 ∧ f_X8_drawOf y1.2 30 = some y2 ∧ f_X8_drawOf y2.2 6 = some y3 ∧ f_X8_putRow 64 0 0 y3.2 (y2.2 8 0 0 32) y1.1 y2.1 y3.1 = some y4 ∧ seM (upd4 y4 8 0 0 32 (y4 8 0 0 32 + 1)) a (sF (lT (yL a)) B s) (s3 s) R0 := by
  obtain ⟨h1, ⟨r1, r2, r3, r4, r5⟩, h3, h4, h5, h6⟩ := h
  have hT9 := hA.1.1
  have t0 : R 50 0 0 0 = nI (lT (yL a)) := h1.2.2.2.2.1
  have e1 : upd4 R 8 0 0 53 (dr s) 8 0 0 53 = dr s := u_at
  have e2 : upd4 (upd4 R 8 0 0 53 (dr s)) 8 0 0 53 (dr (dr s)) 8 0 0 53 = dr (dr s) := u_at
  have n32 : upd4 (upd4 R 8 0 0 53 (dr s)) 8 0 0 53 (dr (dr s)) 8 0 0 32 = nI (bnl B) := by rw [u5, if_neg (by omega), u5, if_neg (by omega)]; exact r5.1
  refine ⟨(nI (db s % lT (yL a)), upd4 R 8 0 0 53 (dr s)), (nI (db (dr s) % 30), upd4 (upd4 R 8 0 0 53 (dr s)) 8 0 0 53 (dr (dr s))), (nI (db (dr (dr s)) % 6), upd4 (upd4 (upd4 R 8 0 0 53 (dr s)) 8 0 0 53 (dr (dr s))) 8 0 0 53 (dr (dr (dr s)))), upd4 (upd4 (upd4 (upd4 (upd4 (upd4 R 8 0 0 53 (dr s)) 8 0 0 53 (dr (dr s))) 8 0 0 53 (dr (dr (dr s)))) 64 0 0 (3 * bnl B) (nI (db s % lT (yL a)))) 64 0 0 (3 * bnl B + 1) (nI (db (dr s) % 30))) 64 0 0 (3 * bnl B + 2) (nI (db (dr (dr s)) % 6)), (by rw [t0]; exact r_draw h3 hT (by omega)), r_draw (I := upd4 R 8 0 0 53 (dr s)) (n := 30) e1 (by omega) (by omega), r_draw (I := upd4 (upd4 R 8 0 0 53 (dr s)) 8 0 0 53 (dr (dr s))) (n := 6) e2 (by omega) (by omega), ?_, ?_⟩
  · show f_X8_putRow 64 0 0 (upd4 (upd4 (upd4 R 8 0 0 53 (dr s)) 8 0 0 53 (dr (dr s))) 8 0 0 53 (dr (dr (dr s)))) (upd4 (upd4 R 8 0 0 53 (dr s)) 8 0 0 53 (dr (dr s)) 8 0 0 32) (nI (db s % lT (yL a))) (nI (db (dr s) % 30)) (nI (db (dr (dr s)) % 6)) = _
    rw [n32]; exact r_putF hb _ _ _
  obtain ⟨A, hA'⟩ : ∃ A, A = upd4 (upd4 (upd4 R 8 0 0 53 (dr s)) 8 0 0 53 (dr (dr s))) 8 0 0 53 (dr (dr (dr s))) := ⟨_, rfl⟩
  obtain ⟨C, hC⟩ : ∃ C, C = upd4 (upd4 (upd4 A 64 0 0 (3 * bnl B) (nI (db s % lT (yL a)))) 64 0 0 (3 * bnl B + 1) (nI (db (dr s) % 30))) 64 0 0 (3 * bnl B + 2) (nI (db (dr (dr s)) % 6)) := ⟨_, rfl⟩
  have goalC : seM (upd4 C 8 0 0 32 (C 8 0 0 32 + 1)) a (sF (lT (yL a)) B s) (s3 s) R0 := by
    have cc : ∀ c, c ≠ 8 → c ≠ 64 → C c = R c := fun c h8 h64 => by rw [hC, u_c h64, u_c h64, u_c h64, hA', u_c h8, u_c h8, u_c h8]
    have c8 : ∀ f, f ≠ 53 → C 8 0 0 f = R 8 0 0 f := fun f hf => by rw [hC, u_c (by omega), u_c (by omega), u_c (by omega), hA', u5, if_neg hf, u5, if_neg hf, u5, if_neg hf]
    have c53 : C 8 0 0 53 = s3 s := by rw [hC, u_c (by omega), u_c (by omega), u_c (by omega), hA', u5, if_pos rfl]; rfl
    have a64 : A 64 = R 64 := by rw [hA', u_c (by omega), u_c (by omega), u_c (by omega)]
    have c64 : ∀ i, C 64 0 0 i = if i = 3 * bnl B + 2 then nI (db (dr (dr s)) % 6) else if i = 3 * bnl B + 1 then nI (db (dr s) % 30) else if i = 3 * bnl B then nI (db s % lT (yL a)) else R 64 0 0 i := fun i => by rw [hC, u5, u5, u5, a64]
    obtain ⟨E, hE⟩ : ∃ E, E = upd4 C 8 0 0 32 (C 8 0 0 32 + 1) := ⟨_, rfl⟩
    rw [← hE]
    have ec : ∀ c, c ≠ 8 → E c = C c := fun c hc => by rw [hE, u_c hc]
    have e8 : ∀ f, f ≠ 32 → f ≠ 53 → E 8 0 0 f = R 8 0 0 f := fun f h32 h53 => by rw [hE, u5, if_neg h32, c8 f h53]
    refine ⟨LdR_eq hA.1 h1 (fun c i hc => by rw [ec c (by omega), cc c (by omega) (by omega)]), ⟨?_, ?_, ⟨?_, ?_⟩, ⟨?_, ?_⟩, ⟨?_, fun k hk => ?_⟩⟩, ?_, fun f a1 a2 => (e8 f a1 a2).trans (h4 f a1 a2), fun c a1 a2 => ?_, fun i hi => ?_⟩
    · rw [ec 53 (by omega), cc 53 (by omega) (by omega)]; exact r1
    · rw [e8 29 (by omega) (by omega)]; exact r2
    · rw [e8 30 (by omega) (by omega)]; exact r3.1
    · rw [ec 62 (by omega), cc 62 (by omega) (by omega)]; exact r3.2
    · rw [e8 31 (by omega) (by omega)]; exact r4.1
    · rw [ec 63 (by omega), cc 63 (by omega) (by omega)]; exact r4.2
    · show E 8 0 0 32 = nI (bnl B + 1)
      rw [hE, u5, if_pos rfl, c8 32 (by omega), r5.1]; exact nI_1 _
    · have hk' : k < bnl B + 1 := hk
      rw [ec 64 (by omega), c64, c64, c64]
      show _ = nI (if k = bnl B then db s % lT (yL a) else bgt B k) ∧ _ = (if k = bnl B then nI (db (dr s) % 30) else bg2 B k) ∧ _ = (if k = bnl B then nI (db (dr (dr s)) % 6) else bg3 B k)
      by_cases q : k = bnl B
      · subst q
        rw [if_neg (by omega), if_neg (by omega), if_pos rfl, if_pos rfl, if_neg (by omega), if_pos rfl, if_pos rfl, if_pos rfl, if_pos rfl]
        exact ⟨rfl, rfl, rfl⟩
      · rw [if_neg q, if_neg q, if_neg q, if_neg (by omega), if_neg (by omega), if_neg (by omega), if_neg (by omega), if_neg (by omega), if_neg (by omega), if_neg (by omega), if_neg (by omega), if_neg (by omega)]
        exact r5.2 k (by omega)
    · rw [hE, u5, if_neg (by omega)]; exact c53
    · rw [ec c a1, cc c a1 a2]; exact h5 c a1 a2
    · rw [ec 64 (by omega), c64, if_neg (by omega), if_neg (by omega), if_neg (by omega)]; exact h6 i hi
  rw [hC, hA'] at goalC
  exact goalC
theorem r_149 {R0 R : Mem} {B : Ben} {s s0 : Int32} {N : Nat} {v3 x f u : Int32} {k : Nat} (hA : AOK a) (h0 : seR R0 a s0) (hB : B = yB (lT (yL a)) (xB (yE a)) s0) (hs : s = yS (lT (yL a)) s0) (h : seM R a B s R0) (hk : k < 2 ^ 30)
    {k68 : Mem → Int32 → Int32 → Int32 → Int32 → Int32 → Int32 → Int32 → Option (Int32 × Mem)} {Q : Int32 × Mem → Prop}
    (hq : ∀ R', seR R' a s → Kr R0 R' → wp (k68 R' (nI N) v3 (x + nI (yN a s0)) (if k = 0 then nI (yN a s0) else jmin f (nI (yN a s0))) (if yN a s0 = lC (yL a) then u + 1 else u) (nI (bnl (xB (yE a)))) (nI (k + 1))) Q) :
    wp (f_X8_season_149 k68 R (nI N) v3 x f u (nI (bnl (xB (yE a)))) (nI k)) Q := by
  obtain ⟨h1, h2, h3, h4, h5, h6⟩ := h
  obtain ⟨⟨g0, g2, g40, g41, g42, g43⟩, g53⟩ := h0
  have hBx := hA.2.1.1 _ (Nat.le_refl _)
  have hBo : BOK (yL a) B := by rw [hB]; exact yB_ok hBx.1 hBx.2.2
  have bd : bd0 B = bd0 (xB (yE a)) := by rw [hB]; unfold yB; split <;> rfl
  have bi : binns B = binns (xB (yE a)) := by rw [hB]; unfold yB; split <;> rfl
  have hC6 := hA.1.2.2.1
  have yb := yN_b (a := a) (s := s0)
  unfold f_X8_season_149
  refine wp_bind (r_tell (B := B) (bw := -1) (df := qdf (yL a)) (mu := 0) (mc := -1) hA.1 hBo (bw' := fun _ => false) (bwf0 hA) h1 h2 (by rw [h4 40 (by omega) (by omega)]; exact g40) (by rw [h4 41 (by omega) (by omega)]; exact g41) (by rw [h4 42 (by omega) (by omega)]; exact g42) (by rw [h4 43 (by omega) (by omega)]; exact g43)) ?_
  rintro ⟨y, R1⟩ ⟨F1', y1, _, _⟩
  have F1 : Fr LT R R1 := F1'
  have y1' : y = nI (yN a s0) := by
    have : y = _ := y1
    rw [this, bd, bi, hB]; rfl
  subst y1'
  have c1 : ∀ c, (c < 66 ∨ 76 < c) → R1 c = R c := fun c hc => F1.gc (fun z => by simp [LT]; omega)
  refine wp_bnd (wp_bnd ?_)
  obtain ⟨E, hE⟩ : ∃ E, E = upd4 R1 8 0 0 32 (nI (bnl (xB (yE a)))) := ⟨_, rfl⟩
  show wp (if nI k = 0 then f_X8_season_185 k68 (upd4 R1 8 0 0 32 (nI (bnl (xB (yE a))))) (nI N) v3 (x + nI (yN a s0)) u (nI (bnl (xB (yE a)))) (nI k) (nI (yN a s0)) (nI (yN a s0)) else f_X8_season_185 k68 (upd4 R1 8 0 0 32 (nI (bnl (xB (yE a))))) (nI N) v3 (x + nI (yN a s0)) u (nI (bnl (xB (yE a)))) (nI k) (nI (yN a s0)) (jmin f (nI (yN a s0)))) Q
  rw [← hE]
  have e8 : ∀ f, f ≠ 53 → E 8 0 0 f = R0 8 0 0 f := fun f hf => by
    by_cases q : f = 32
    · subst q; rw [hE, u5, if_pos rfl]; exact g0.2.1.1.2.2.2.2.1.symm
    · rw [hE, u5, if_neg q, c1 8 (by omega), h4 f q hf]
  have e53 : E 8 0 0 53 = s := by rw [hE, u5, if_neg (by omega), c1 8 (by omega)]; exact h3
  have ec : ∀ c, c ≠ 8 → c ≠ 64 → (c < 66 ∨ 76 < c) → E c = R0 c := fun c a1 a2 a3 => by rw [hE, u_c a1, c1 c a3, h5 c a1 a2]
  have e64 : ∀ i, i < 3 * bnl (xB (yE a)) → E 64 0 0 i = R0 64 0 0 i := fun i hi => by rw [hE, u_c (by omega), c1 64 (by omega)]; exact h6 i hi
  have gE : GR E a := by
    obtain ⟨q1, ⟨⟨z1, z2, z3, z4, z5⟩, y2, y3, y4, y5⟩, q3, q4, q5, q6⟩ := g0
    refine ⟨LdR_eq hA.1 q1 (fun c i hc => by rw [ec c (by omega) (by omega) (by omega)]), ⟨⟨?_, ?_, ?_, ?_, ⟨?_, fun k hk => ?_⟩⟩, ?_, ?_, ?_, ?_⟩, ?_, fun z => ?_, ?_, ?_⟩
    · rw [ec 53 (by omega) (by omega) (by omega)]; exact z1
    · rw [e8 29 (by omega)]; exact z2
    · unfold rR; rw [e8 30 (by omega), ec 62 (by omega) (by omega) (by omega)]; exact z3
    · unfold rR; rw [e8 31 (by omega), ec 63 (by omega) (by omega) (by omega)]; exact z4
    · rw [e8 32 (by omega)]; exact z5.1
    · rw [e64 _ (by omega), e64 _ (by omega), e64 _ (by omega)]; exact z5.2 k hk
    · rw [e8 33 (by omega)]; exact y2
    · unfold pkd; rw [ec 65 (by omega) (by omega) (by omega)]; exact y3
    · unfold rSn; rw [e8 34 (by omega), ec 77 (by omega) (by omega) (by omega), ec (77 + 1) (by omega) (by omega) (by omega), ec (77 + 2) (by omega) (by omega) (by omega)]; exact y4
    · rw [ec 59 (by omega) (by omega) (by omega)]; exact y5
    · rw [e8 54 (by omega)]; exact q3
    · have := q4 z
      unfold RV pkd rSn at this ⊢
      rw [e8 55 (by omega), e8 56 (by omega), ec 80 (by omega) (by omega) (by omega), ec 81 (by omega) (by omega) (by omega), ec 82 (by omega) (by omega) (by omega), ec (82 + 1) (by omega) (by omega) (by omega), ec (82 + 2) (by omega) (by omega) (by omega), ec 85 (by omega) (by omega) (by omega)]
      exact this
    · rw [e8 14 (by omega), ec 60 (by omega) (by omega) (by omega)]; exact q5
    · rw [e8 23 (by omega)]; exact q6
  have hE' : seR E a s := ⟨⟨gE, by rw [e8 2 (by omega)]; exact g2, by rw [e8 40 (by omega)]; exact g40, by rw [e8 41 (by omega)]; exact g41, by rw [e8 42 (by omega)]; exact g42, by rw [e8 43 (by omega)]; exact g43⟩, e53⟩
  have kE : Kr R0 E := fun c h8 hc => ec c h8 (by omega) (by omega)
  have hqE := hq E hE' kE
  have e5 : E 50 0 0 5 = nI (lC (yL a)) := gE.1.2.2.2.2.2.1
  have fin : ∀ f', f' = (if k = 0 then nI (yN a s0) else jmin f (nI (yN a s0))) → wp (f_X8_season_185 k68 E (nI N) v3 (x + nI (yN a s0)) u (nI (bnl (xB (yE a)))) (nI k) (nI (yN a s0)) f') Q := by
    intro f' hf'
    unfold f_X8_season_185
    rw [nI_1]
    refine wp_ite (fun q => wp_bnd ?_) (fun q => wp_bnd ?_)
    · rw [e5, nI_eq (by omega) (by omega)] at q
      rw [if_pos q] at hqE
      rw [hf']; exact hqE
    · rw [e5, nI_eq (by omega) (by omega)] at q
      rw [if_neg q] at hqE
      rw [hf', Int32.add_zero]; exact hqE
  by_cases q : k = 0
  · exact wp_pos (by rw [q]; rfl) (fin _ (by rw [if_pos q]))
  · exact wp_neg (nI_ne0 (by omega) (by omega)) (fin _ (by rw [if_neg q]))
theorem r_sea (hA : AOK a) {N : Nat} (hN : N ≤ 40) {v3 : Int32} : ∀ m fu k I s x f u, k + m = N → m < fu → seR I a s →
    wp (f_X8_season_68 fu I (nI N) v3 x f u (nI (bnl (xB (yE a)))) (nI k)) (fun w => w.1 = sel3 v3 (sea a m k s (x, f, u)) ∧ sR w.2 a ∧ Kr I w.2) := by
  have hT9 := hA.1.1
  have hB4 : bnl (xB (yE a)) ≤ 4 := (hA.2.1.1 _ (Nat.le_refl _)).2.2
  intro m
  induction m with
  | zero =>
    intro fu k I s x f u hk hf h
    obtain ⟨g, rfl⟩ := Nat.exists_eq_succ_of_ne_zero (by omega : fu ≠ 0)
    unfold f_X8_season_68
    refine wp_pos (nI_le (by omega) (by omega)) ?_
    unfold sea sel3
    refine wp_ite (fun q => wp_some ⟨by rw [if_pos q], h.1, Kr.rfl⟩) (fun q => wp_ite (fun q2 => wp_some ⟨by rw [if_neg q, if_pos q2], h.1, Kr.rfl⟩) (fun q2 => wp_some ⟨by rw [if_neg q, if_neg q2], h.1, Kr.rfl⟩))
  | succ m ih =>
    intro fu k I s x f u hk hf h
    obtain ⟨g, rfl⟩ := Nat.exists_eq_succ_of_ne_zero (by omega : fu ≠ 0)
    unfold f_X8_season_68
    refine wp_neg (nI_ge (by omega) (by omega)) ?_
    have h0 : seM I a (xB (yE a)) s I := ⟨h.1.1.1, h.1.1.2.1.1, h.2, fun _ _ _ => rfl, fun _ _ _ => rfl, fun _ _ => rfl⟩
    have cont : ∀ R', seR R' a (yS (lT (yL a)) s) → Kr I R' → wp (f_X8_season_68 g R' (nI N) v3 (x + nI (yN a s)) (if k = 0 then nI (yN a s) else jmin f (nI (yN a s))) (if yN a s = lC (yL a) then u + 1 else u) (nI (bnl (xB (yE a)))) (nI (k + 1))) (fun w => w.1 = sel3 v3 (sea a (m + 1) k s (x, f, u)) ∧ sR w.2 a ∧ Kr I w.2) := by
      intro R' h' k'
      refine wp_mono (ih g (k + 1) R' _ _ _ _ (by omega) (by omega) h') ?_
      rintro w ⟨w1, w2, w3⟩
      exact ⟨by rw [w1, sea], w2, k'.tr w3⟩
    obtain ⟨gg, hFU⟩ : ∃ gg, FU = gg + 3 := ⟨1997, rfl⟩
    rw [hFU]
    have t0 : ∀ J B s', seM J a B s' I → J 50 0 0 0 = nI (lT (yL a)) := fun J B s' hJ => hJ.1.2.2.2.2.1
    by_cases hT : lT (yL a) = 0
    · unfold f_X8_season_77
      rw [t0 I _ _ h0, hT]
      refine wp_neg (by decide) (wp_pos (by decide) ?_)
      exact r_149 hA h (by unfold yB; rw [if_pos hT]) rfl (by unfold yS; rw [if_pos hT]; exact h0) (by omega) cont
    · have step : ∀ fu J B s' v, seM J a B s' I → bnl B < 6 → bnl (xB (yE a)) ≤ bnl B → ¬ (2 : Int32) ≤ v → ∀ {Q : Int32 × Mem → Prop}, (∀ J', seM J' a (sF (lT (yL a)) B s') (s3 s') I → wp (f_X8_season_77 (f_X8_season_68 g) fu J' (nI N) v3 x f u (nI (bnl (xB (yE a)))) (nI k) (v + 1)) Q) → wp (f_X8_season_77 (f_X8_season_68 g) (fu + 1) J (nI N) v3 x f u (nI (bnl (xB (yE a)))) (nI k) v) Q := by
        intro fu J B s' v hJ hb hb0 hv Q hq
        obtain ⟨y1, y2, y3, y4, e1, e2, e3, e4, h4⟩ := r_fl hA (by omega) hb hb0 hJ
        unfold f_X8_season_77
        refine wp_neg hv (wp_neg (by rw [t0 J _ _ hJ]; exact nI_nle (by omega) (by omega)) ?_)
        rw [e1, Option.bind_some, e2, Option.bind_some, e3, Option.bind_some, e4, Option.bind_some]
        exact wp_bnd (hq _ h4)
      refine step (gg + 2) I _ s 0 h0 (by omega) (Nat.le_refl _) (by decide) (fun J1 h1 => ?_)
      refine step (gg + 1) J1 _ (s3 s) (0 + 1) h1 (show bnl (xB (yE a)) + 1 < 6 by omega) (show bnl (xB (yE a)) ≤ bnl (xB (yE a)) + 1 by omega) (by decide) (fun J2 h2 => ?_)
      unfold f_X8_season_77
      refine wp_pos (by decide) ?_
      refine r_149 hA h (B := sF (lT (yL a)) (sF (lT (yL a)) (xB (yE a)) s) (s3 s)) ?_ rfl ?_ (by omega) cont
      · unfold yB; rw [if_neg hT]
      · unfold yS; rw [if_neg hT]; exact h2
end
