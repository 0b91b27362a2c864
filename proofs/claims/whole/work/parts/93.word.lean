/-! pairs of calls: word, feast, flood -/
def bFeast (B : Ben) (t d e : Int32) : Ben := (bd0 B, binns B, bnf B + 1, (fun k => if k = bnf B then t else bf1 B k), (fun k => if k = bnf B then d else bf2 B k), (fun k => if k = bnf B then e else bf3 B k), bnl B, bgt B, bg2 B, bg3 B, bn B, bw1 B, bwt B, bw3 B)
def bFlood (B : Ben) (t : Nat) (d e : Int32) : Ben := (bd0 B, binns B, bnf B, bf1 B, bf2 B, bf3 B, bnl B + 1, (fun k => if k = bnl B then t else bgt B k), (fun k => if k = bnl B then d else bg2 B k), (fun k => if k = bnl B then e else bg3 B k), bn B, bw1 B, bwt B, bw3 B)
theorem r_putR {c n : Nat} (hc : c = 62 ∨ c = 63 ∨ c = 64) (hn : 3 * n + 2 < cL c 0) (I : Mem) (v2 v3 v4 : Int32) :
    wp (f_X8_putRow c 0 0 I (nI n) v2 v3 v4) (fun I' => Fr [(c, 0)] I I' ∧ ∀ x, I' c 0 0 x = if x = 3 * n then v2 else if x = 3 * n + 1 then v3 else if x = 3 * n + 2 then v4 else I c 0 0 x) := by
  have hL : cL c 0 < 100 := by rcases hc with rfl | rfl | rfl <;> decide
  have x0 : (3 : Int32) * nI n = nI (3 * n) := pk_mul 3 _
  have x2 : nI (3 * n) + (2 : Int32) = nI (3 * n + 2) := nI_add _ 2
  unfold f_X8_putRow
  rw [x0, x2, nI_1]
  refine wp_gd (inb_n (by omega) (by omega)) (wp_bnd (wp_gd (inb_n (by omega) (by omega)) (wp_bnd (wp_gd (inb_n (by omega) (by omega)) (wp_bnd (wp_some ?_))))))
  rw [nI_clamp (by omega), nI_clamp (by omega), nI_clamp (by omega)]
  refine ⟨((Fr.up (by simp)).tr (Fr.up (by simp))).tr (Fr.up (by simp)), fun x => ?_⟩
  rw [u_if, u_if, u_if]
  by_cases e : x = 3 * n
  · rw [if_neg (by omega), if_neg (by omega), if_pos ⟨rfl, e⟩, if_pos e]
  · by_cases e2 : x = 3 * n + 1
    · rw [if_neg (by omega), if_pos ⟨rfl, e2⟩, if_neg e, if_pos e2]
    · by_cases e3 : x = 3 * n + 2
      · rw [if_pos ⟨rfl, e3⟩, if_neg e, if_neg e2, if_pos e3]
      · rw [if_neg (fun q => e3 q.2), if_neg (fun q => e2 q.2), if_neg (fun q => e q.2), if_neg e, if_neg e2, if_neg e3]
/-- a row put behind n rows -/
theorem rR_put {I I' : Mem} {f c n : Nat} {a1 a2 a3 : Nat → Int32} {v2 v3 v4 : Int32} (h : rR I f c n a1 a2 a3) (hf : I' 8 0 0 f = nI (n + 1)) (hx : ∀ x, I' c 0 0 x = if x = 3 * n then v2 else if x = 3 * n + 1 then v3 else if x = 3 * n + 2 then v4 else I c 0 0 x) :
    rR I' f c (n + 1) (fun k => if k = n then v2 else a1 k) (fun k => if k = n then v3 else a2 k) (fun k => if k = n then v4 else a3 k) := by
  refine ⟨hf, fun k hk => ?_⟩
  show I' c 0 0 (3 * k) = (if k = n then v2 else a1 k) ∧ I' c 0 0 (3 * k + 1) = (if k = n then v3 else a2 k) ∧ I' c 0 0 (3 * k + 2) = (if k = n then v4 else a3 k)
  by_cases e : k = n
  · subst e
    refine ⟨?_, ?_, ?_⟩
    · rw [hx, if_pos rfl, if_pos rfl]
    · rw [hx, if_neg (by omega), if_pos rfl, if_pos rfl]
    · rw [hx, if_neg (by omega), if_neg (by omega), if_pos rfl, if_pos rfl]
  · obtain ⟨y1, y2, y3⟩ := h.2 k (by omega)
    refine ⟨?_, ?_, ?_⟩
    · rw [hx, if_neg (by omega), if_neg (by omega), if_neg (by omega), if_neg e]; exact y1
    · rw [hx, if_neg (by omega), if_neg (by omega), if_neg (by omega), if_neg e]; exact y2
    · rw [hx, if_neg (by omega), if_neg (by omega), if_neg (by omega), if_neg e]; exact y3
theorem c_addlt {I : Mem} {z n : Nat} {a1 a2 a3 : Nat → Int32} (h : cRw I z n a1 a2 a3) (hn : n < rowsLen z) (v1 v2 v3 : Int32) :
    wp (f_X6_add z I v1 v2 v3) (fun I' => cRw I' z (n + 1) (fun i => if i = n then v1 else a1 i) (fun i => if i = n then v2 else a2 i) (fun i => if i = n then v3 else a3 i) ∧ Fr (Lrow z) I I') := by
  unfold f_X6_add
  rw [c_full h, Option.bind_some, decide_eq_true hn]
  exact wp_pos rfl (c_add11 h hn v1 v2 v3)
section
variable {I : Mem} {P : PMem} {l : Nat} {a : Abs} {O : Nat → Int64} {D : Bool} {n : Nat}
/-- a row added: the class -/
theorem c_row (hA : AOK a) (hC : GC I P l a) {z nn : Nat} (hz : z < 3) {a1 a2 a3 : Nat → Int32} {v1 v2 v3 k w : Int32} {B' : Ben} (h : cRw I z nn a1 a2 a3) (hn : nn < 4) {fr : Mem → Option (Int32 × Mem)} (hX : XOK (yL a) (pushE (yE a) B' k w 0))
    (hB : ∀ I1, Fr (Lrow z) I I1 → cRw I1 z (nn + 1) (fun i => if i = nn then v1 else a1 i) (fun i => if i = nn then v2 else a2 i) (fun i => if i = nn then v3 else a3 i) → CB I1 0 (lJ (yL a)) B')
    (hr : ∀ I1, GR I1 a → wp (fr I1) (fun w' => w'.1 = nI (nn + 1) ∧ w'.2 8 0 0 2 = 0 ∧ GR w'.2 (setE a (pushE (yE a) B' k w 0)) ∧ Kr I1 w'.2)) :
    wp ((f_X6_add z I v1 v2 v3).bind fun y5 => (f_X7_keepAct y5 k w 0).bind fun y6 => some (Sum.inl (y6 6 z 0 3, y6))) (Qa I P l a fr) := by
  have ⟨x1, x2, x3, x4⟩ := hC.2.2.1
  have r4 : rowsLen z = 4 := by
    have : z = 0 ∨ z = 1 ∨ z = 2 := by omega
    rcases this with rfl | rfl | rfl <;> rfl
  refine wp_bind (c_addlt h (by omega) v1 v2 v3) ?_
  rintro I1 ⟨c1, F1⟩
  have hz' : z = 0 ∨ z = 1 ∨ z = 2 := by omega
  have FA : Fr ACT I I1 := F1.sub (by rcases hz' with rfl | rfl | rfl <;> simp [ACT, Lrow])
  have n3 : ∀ c, c ∈ [6, 44, 45, 46] → ¬ (c, 3) ∈ Lrow z := by rcases hz' with rfl | rfl | rfl <;> simp [Lrow]
  have n4 : ∀ c, c ∈ [6, 44, 45, 46] → ¬ (c, 4) ∈ Lrow z := by rcases hz' with rfl | rfl | rfl <;> simp [Lrow]
  refine wp_bind (c_keep (k := k) (w := w) (b := 0) hA hC FA (fun f => by rw [F1.g (c := 7) (z := 0) (by simp [Lrow])]) (hB I1 F1 c1) (cR_fr x2 F1 n3) (cR_fr x3 F1 n4) (by rw [F1.g (c := 10) (z := 0) (by simp [Lrow])]; exact x4)) ?_
  rintro I2 ⟨g2, k2, e6⟩
  refine wp_some (Or.inl ⟨_, I2, _, rfl, hX, g2, (F1.kc (by simp [Lrow])).tr k2, fun hR1 => ?_⟩)
  have e : I2 6 z 0 3 = nI (nn + 1) := by rw [e6 z (by omega)]; exact c1.1
  rw [e]
  exact hr I2 hR1
/-- a row added: the reference -/
theorem r_row (hA : AOK a) {I1 : Mem} (hR1 : GR I1 a) {c f nn : Nat} (hc : c = 62 ∧ f = 30 ∨ c = 63 ∧ f = 31 ∨ c = 64 ∧ f = 32) {v1 v2 v3 k w : Int32} {B' : Ben} (h : I1 8 0 0 f = nI nn) (hn : nn < 4)
    (hB : ∀ I3 I4, RB I3 (lJ (yL a)) (xB (yE a)) → Fr [(8, 0), (c, 0)] I3 I4 → (∀ g, g ≠ f → I4 8 0 0 g = I3 8 0 0 g) → I4 8 0 0 f = nI (nn + 1) → (∀ x, I4 c 0 0 x = if x = 3 * nn then v1 else if x = 3 * nn + 1 then v2 else if x = 3 * nn + 2 then v3 else I3 c 0 0 x) → RB I4 (lJ (yL a)) B') :
    wp ((f_X8_keep (upd4 I1 8 0 0 2 0)).bind fun y4 => (f_X8_putRow c 0 0 y4 (y4 8 0 0 f) v1 v2 v3).bind fun y5 => bnd (upd4 y5 8 0 0 f (y5 8 0 0 f + 1)) fun I2' => some (I2' 8 0 0 f, I2')) (fun w' => w'.1 = nI (nn + 1) ∧ w'.2 8 0 0 2 = 0 ∧ GR w'.2 (setE a (pushE (yE a) B' k w 0)) ∧ Kr I1 w'.2) := by
  obtain ⟨r1, r2⟩ := r_code hR1 0
  refine wp_bind (r_keep hA.1 hA.2.1 r1.2.1) ?_
  rintro I3 ⟨F3, f3, n3, p3⟩
  have hf2 : f ≠ 2 := by omega
  have ef : I3 8 0 0 f = nI nn := by rw [f3 f (by omega), code_f hf2]; exact h
  rw [ef]
  have hcL : 3 * nn + 2 < cL c 0 := by
    rcases hc with ⟨rfl, _⟩ | ⟨rfl, _⟩ | ⟨rfl, _⟩
    · show 3 * nn + 2 < 15; omega
    · show 3 * nn + 2 < 12; omega
    · show 3 * nn + 2 < 18; omega
  refine wp_bind (r_putR (by omega) hcL I3 v1 v2 v3) ?_
  rintro I4 ⟨F4, x4⟩
  have c8 : c ≠ 8 := by omega
  have e8 : I4 8 0 = I3 8 0 := F4.g (by simp; omega)
  refine wp_bnd (wp_some ?_)
  rw [e8, ef, nI_1]
  have z1 := r1.2.1
  have rb3 : RB I3 (lJ (yL a)) (xB (yE a)) := by
    have z2 := z1.1
    unfold RB rR at z2 ⊢
    rw [F3.g (c := 53) (z := 0) (by simp), F3.g (c := 62) (z := 0) (by simp), F3.g (c := 63) (z := 0) (by simp), F3.g (c := 64) (z := 0) (by simp), f3 29 (by omega), f3 30 (by omega), f3 31 (by omega), f3 32 (by omega)]
    exact z2
  have g5 : ∀ g, g ≠ f → upd4 I4 8 0 0 f (nI (nn + 1)) 8 0 0 g = I3 8 0 0 g := fun g hg => by rw [u_if, if_neg (fun q => hg q.2), e8]
  have rb := hB I3 (upd4 I4 8 0 0 f (nI (nn + 1))) rb3 ((F4.sub (by simp)).tr (Fr.up (by simp))) g5 u_at (fun x => by rw [u_c c8]; exact x4 x)
  obtain ⟨d1, d2, d3⟩ := r_done (k := k) (w := w) (b := 0) hA r1 F3 f3 n3 p3 (I4 := upd4 I4 8 0 0 f (nI (nn + 1))) ((F4.sub (by rcases hc with ⟨rfl, _⟩ | ⟨rfl, _⟩ | ⟨rfl, _⟩ <;> simp)).tr (Fr.up (by simp))) (fun g hg => g5 g (by omega)) rb
  exact ⟨u_at (I := I4), d3.trans (code0 I1), d1, r2.tr d2⟩
theorem A_sz (hA : AOK a) : bn (xB (yE a)) ≤ 4 ∧ bnf (xB (yE a)) ≤ 4 ∧ bnl (xB (yE a)) ≤ 4 := ⟨(hA.2.1.1 _ (Nat.le_refl _)).2.1, (A_BOK hA).2.1, (hA.2.1.1 _ (Nat.le_refl _)).2.2⟩
theorem i99 (J : Mem) (v : Int32) : f_X8_isIn J v.toInt64 0 99 = some (bI (inR v 100)) := by
  rw [show (99 : Int64) = (nI 99).toInt64 by decide, i64, (inS (v := v) (n := 99)).resolve_right (by omega)]
theorem n_99 : (99 : Int32) = nI 99 := rfl
theorem p_word (h : G I P) (v1 v2 v3 : Int32) : Pr (f_L_word I P O D n v1 v2 v3) (fun I => f_X8_word I v1 v2 v3) n := by
  obtain ⟨l, a, hA, hC, hR⟩ := h
  have hC6 := hA.1.2.2.1
  have hT9 := hA.1.1
  have hsz := A_sz hA
  obtain ⟨hR0, hK0⟩ := r_code hR 0
  refine L_a hA hC hR ?_
  unfold f_X7_word
  have no : inR v1 (lC (yL a)) = false ∨ inR v2 (lT (yL a)) = false → wp (f_X8_word I v1 v2 v3) (fun w => w.2 8 0 0 2 = 1 ∧ GR w.2 a ∧ Kr I w.2) := by
    intro q
    unfold f_X8_word
    refine wp_bnd (wp_bindE _ (r_case hA hR0 v1) ?_)
    refine wp_ite (fun _ => r_fail1 hR 1) (fun q1 => wp_bindE _ (r_town hA hR0 v2) (wp_ite (fun _ => r_fail1 hR 1) (fun q2 => ?_)))
    rcases q with q | q
    · exact absurd (bI_0.mpr q) q1
    · exact absurd (bI_0.mpr q) q2
  refine wp_thb (q_case hA hC v1) (fun b1 => wp_thb (q_town hA hC v2) (fun b2 => ?_) (fun b2 => Or.inr ⟨rfl, no (by simp [b2])⟩)) (fun b1 => Or.inr ⟨rfl, no (by simp [b1])⟩)
  obtain ⟨c, hc, rfl⟩ := inR_t (by omega) b1
  obtain ⟨t, ht, rfl⟩ := inR_t (by omega) b2
  have hrow : cRw I 0 (bn (xB (yE a))) (bw1 (xB (yE a))) (fun k => nI (bwt (xB (yE a)) k)) (bw3 (xB (yE a))) := hC.2.2.1.1.2.2.1
  have r4 : rowsLen 0 = 4 := rfl
  -- the reference up to the choice
  have ref : ∀ I1 {Q : Int32 × Mem → Prop}, GR I1 a → (¬ (bn (xB (yE a)) < 4 ∧ inR v3 100 = true) → wp ((f_X8_refuse (upd4 I1 8 0 0 2 0) 1).bind fun y1 => some (y1.1, y1.2)) Q) →
      (bn (xB (yE a)) < 4 ∧ inR v3 100 = true → wp ((f_X8_keep (upd4 I1 8 0 0 2 0)).bind fun y4 => (f_X8_putRow 62 0 0 y4 (y4 8 0 0 30) (nI c) (nI t) v3).bind fun y5 => bnd (upd4 y5 8 0 0 30 (y5 8 0 0 30 + 1)) fun I2' => some (I2' 8 0 0 30, I2')) Q) → wp (f_X8_word I1 (nI c) (nI t) v3) Q := by
    intro I1 Q hR1 hno hyes
    obtain ⟨r1, r2⟩ := r_code hR1 0
    have e30 : upd4 I1 8 0 0 2 0 8 0 0 30 = nI (bn (xB (yE a))) := r1.2.1.1.2.2.1.1
    unfold f_X8_word
    refine wp_bnd (wp_bindE _ (r_case hA r1 _) ?_)
    rw [b1]
    refine wp_neg (by decide) (wp_bindE _ (r_town hA r1 _) ?_)
    rw [b2, e30, n_4]
    refine wp_neg (by decide) (wp_ite (fun q => hno ?_) (fun q => wp_bindE _ (i99 _ v3) (wp_ite (fun q2 => hno ?_) (fun q2 => hyes ?_))))
    · rw [nI_eq (by omega) (by omega)] at q; omega
    · rw [bI_0.mp q2]; exact fun h => by cases h.2
    · rw [nI_eq (by omega) (by omega)] at q
      refine ⟨by omega, ?_⟩
      cases e : inR v3 100
      · exact absurd (bI_0.mpr e) q2
      · rfl
  have refuse : ¬ (bn (xB (yE a)) < 4 ∧ inR v3 100 = true) → wp (f_X7_word_32 P I) (Qa I P l a (fun I => f_X8_word I (nI c) (nI t) v3)) := by
    intro hq
    unfold f_X7_word_32
    exact qa_refuse hA hC (fun I1 hR1 => ref I1 hR1 (fun _ => r_refuse1 _) (fun q => absurd q hq))
  refine wp_bindE _ (c_full hrow) ?_
  rw [r4]
  refine wp_ite (fun q => ?_) (fun q => refuse ?_)
  · have q1 : bn (xB (yE a)) < 4 := by
      have := bI_0.mp q
      by_cases e : bn (xB (yE a)) < 4
      · exact e
      · rw [decide_eq_false e] at this; cases this
    refine wp_bindE _ (q_outside I v3 (n := 99) (by omega)) (wp_ite (fun q2 => ?_) (fun q2 => refuse ?_))
    · have q3 : inR v3 100 = true := by
        have := bI_0.mp q2
        cases e : inR v3 100
        · rw [e] at this; cases this
        · rfl
      obtain ⟨d, hd, ed⟩ := inR_t (by omega) q3
      have hd2 : 0 ≤ v3.toInt ∧ v3.toInt ≤ 114 := by rw [ed, nI_toInt (by omega)]; omega
      have hok := bWord_ok (c := nI c) (A_BOK hA) (by omega) ht hd2
      have hu : uRel (lJ (yL a)) 2 (nI t) 0 (xB (yE a)) (bWord (xB (yE a)) (nI c) t v3) := by
        refine ⟨Or.inr (Or.inr (Or.inl ⟨rfl, rfl, fun _ _ => rfl, rfl, rfl, rfl⟩)), fun i hi => ⟨(if_neg (by omega)).symm, (if_neg (by omega)).symm, (if_neg (by omega)).symm⟩, fun i _ => ⟨rfl, rfl, rfl⟩, fun i _ => ⟨rfl, rfl, rfl⟩⟩
      refine c_row (B' := bWord (xB (yE a)) (nI c) t v3) hA hC (by omega) hrow q1 (pushE_ok hA.2.1 ⟨hok, by show bn (xB (yE a)) + 1 ≤ 4; omega, hsz.2.2⟩ hu) ?_ ?_
      · intro I1 F1 c1
        obtain ⟨y1, y2, y3, y4, y5⟩ := hC.2.2.1.1
        refine ⟨by rw [F1.g (c := 9) (z := 0) (by simp [Lrow])]; exact y1, by rw [F1.g (c := 0) (z := 0) (by simp [Lrow])]; exact y2, cRw_cong c1 (fun i _ => ⟨rfl, ?_, rfl⟩), cR_fr y4 F1 (by simp [Lrow]), cR_fr y5 F1 (by simp [Lrow])⟩
        show _ = nI (if i = bn (xB (yE a)) then t else bwt (xB (yE a)) i)
        by_cases e : i = bn (xB (yE a))
        · rw [if_pos e, if_pos e]
        · rw [if_neg e, if_neg e]
      · intro I1 hR1
        refine ref I1 hR1 (fun q => absurd ⟨q1, q3⟩ q) (fun _ => ?_)
        refine r_row hA hR1 (Or.inl ⟨rfl, rfl⟩) hR1.2.1.1.2.2.1.1 q1 ?_
        intro I3 I4 rb F4 g4 e4 x4
        obtain ⟨y1, y2, y3, y4, y5⟩ := rb
        refine ⟨by rw [F4.g (c := 53) (z := 0) (by simp)]; exact y1, by rw [g4 29 (by omega)]; exact y2, ?_, ?_, ?_⟩
        · have := rR_put y3 e4 x4
          refine ⟨this.1, fun k hk => ?_⟩
          obtain ⟨w1, w2, w3⟩ := this.2 k hk
          refine ⟨w1, w2.trans ?_, w3⟩
          show (if k = bn (xB (yE a)) then nI t else nI (bwt (xB (yE a)) k)) = nI (if k = bn (xB (yE a)) then t else bwt (xB (yE a)) k)
          by_cases e : k = bn (xB (yE a))
          · rw [if_pos e, if_pos e]
          · rw [if_neg e, if_neg e]
        · unfold rR; rw [g4 31 (by omega), F4.g (c := 63) (z := 0) (by simp)]; exact y4
        · unfold rR; rw [g4 32 (by omega), F4.g (c := 64) (z := 0) (by simp)]; exact y5
    · intro h
      rw [h.2] at q2
      exact q2 rfl
  · intro h
    rw [decide_eq_true h.1] at q
    exact q rfl
end
