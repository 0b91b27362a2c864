/-! pairs of calls: free, sent -/
def bWord (B : Ben) (c : Int32) (t : Nat) (d : Int32) : Ben :=
  (bd0 B, binns B, bnf B, bf1 B, bf2 B, bf3 B, bnl B, bgt B, bg2 B, bg3 B, bn B + 1, (fun k => if k = bn B then c else bw1 B k), (fun k => if k = bn B then t else bwt B k), fun k => if k = bn B then d else bw3 B k)
theorem bWord_ok {L : Land} {B : Ben} {c : Int32} {t : Nat} {d : Int32} (h : BOK L B) (h4 : bn B ≤ 4) (ht : t < lT L) (hd : 0 ≤ d.toInt ∧ d.toInt ≤ 114) : BOK L (bWord B c t d) := by
  refine ⟨h.1, h.2.1, h.2.2.1, h.2.2.2.1, ?_, ?_⟩
  · show bn B + 1 ≤ 5; omega
  · intro k hk
    have hk' : k < bn B + 1 := hk
    show (if k = bn B then t else bwt B k) < lT L ∧ 0 ≤ (if k = bn B then d else bw3 B k).toInt ∧ (if k = bn B then d else bw3 B k).toInt ≤ 114
    by_cases e : k = bn B
    · rw [if_pos e, if_pos e]; exact ⟨ht, hd⟩
    · rw [if_neg e, if_neg e]; exact h.2.2.2.2.2 k (by omega)
section
variable {L : Land} {B : Ben} {tw : Nat → Nat → Nat} {dy : Nat → Nat → Int32}
theorem bWord_rc {c c' j t : Nat} {d : Int32} (hc : c < 2 ^ 31) (hc' : c' < 2 ^ 31) : qrc L (bWord B (nI c) t d) tw dy c' j = (qrc L B tw dy c' j || (decide (c' = c) && rcW (qH L B tw dy) (lnw L) (lns L) tw dy c' j t d)) := by
  show rcV (lnw L) (lJ L) (lns L) tw dy (qtl L B tw dy) (qsd L B tw dy) (qsn L B tw dy) (bn B + 1) (fun k => if k = bn B then nI c else bw1 B k) (fun k => if k = bn B then t else bwt B k) (fun k => if k = bn B then d else bw3 B k) c' j = _
  unfold qrc rcV
  rw [ex_snoc, Nat.zero_add, Bool.or_assoc]
  congr 1
  have e1 : ex (fun k => decide ((if k = bn B then nI c else bw1 B k) = nI c') && cx (lnw L) (tw j) (dy j) (lns L j) (qsd L B tw dy c' j) (if k = bn B then t else bwt B k) (if k = bn B then d else bw3 B k)) 0 (bn B) = ex (fun k => decide (bw1 B k = nI c') && cx (lnw L) (tw j) (dy j) (lns L j) (qsd L B tw dy c' j) (bwt B k) (bw3 B k)) 0 (bn B) := by
    refine ex_cong fun k _ hk => ?_
    rw [if_neg (by omega), if_neg (by omega), if_neg (by omega)]
  rw [e1]
  congr 1
  show (decide ((if bn B = bn B then nI c else bw1 B (bn B)) = nI c') && cx (lnw L) (tw j) (dy j) (lns L j) (qsd L B tw dy c' j) (if bn B = bn B then t else bwt B (bn B)) (if bn B = bn B then d else bw3 B (bn B))) = _
  rw [if_pos rfl, if_pos rfl, if_pos rfl]
  by_cases e : c' = c
  · rw [e]; simp; rfl
  · rw [decide_eq_false e, decide_eq_false (by rw [nI_eq hc hc']; exact fun q => e q.symm)]; simp
/-- a word more, or the bits of those whom it reaches -/
theorem bWord_tr {inns df : Int32} {c t : Nat} {d : Int32} (hJ5 : lJ L ≤ 5) (hc : c < 2 ^ 31) : qtr L (bWord B (nI c) t d) tw dy inns 0 df c = qtr L B tw dy inns (bs (fun j => rcW (qH L B tw dy) (lnw L) (lns L) tw dy c j t d) 0 (lJ L) 0) df c := by
  show trv (lJ L) (qtl L B tw dy) (qsd L B tw dy) (qst L B tw dy) (qgv L B tw dy) (qrc L (bWord B (nI c) t d) tw dy) (qmt L B tw dy inns) 0 df c = _
  unfold qtr trv tri
  refine tr1_cong (J := lJ L) ?_ (lJ L) 0 _ (by omega)
  intro x y w h1 h2 h3
  have key : ∀ j, j < lJ L → gjv (qtl L B tw dy) (qgv L B tw dy) (qrc L (bWord B (nI c) t d) tw dy) 0 df c j = gjv (qtl L B tw dy) (qgv L B tw dy) (qrc L B tw dy) (bs (fun j => rcW (qH L B tw dy) (lnw L) (lns L) tw dy c j t d) 0 (lJ L) 0) df c j := by
    intro j hj
    unfold gjv
    rw [bWord_rc hc hc, b_0, Bool.or_false, bt_bs _ _ _ _ _ (by omega) (by omega), b_0, decide_eq_true (rfl : c = c), Bool.true_and, Nat.zero_add, decide_eq_true (Nat.zero_le j), decide_eq_true hj, Bool.false_or, Bool.true_and, Bool.true_and]
  unfold ok3
  rw [key x (by omega), key y (by omega), key w (by omega)]
end
def LT9 : List (Nat × Nat) := (62, 0) :: LT8
def T9 (n : Nat) (I I' : Mem) : Prop := Fr LT9 I I' ∧ (∀ f, f < 40 ∨ 43 < f → f ≠ 2 → f ≠ 30 → I' 8 0 0 f = I 8 0 0 f) ∧ I' 8 0 0 2 = I 8 0 0 2 ∧ ∀ x, x < 3 * n → I' 62 0 0 x = I 62 0 0 x
theorem T9.tr {n : Nat} {I I' I'' : Mem} (h : T9 n I I') (h2 : T9 n I' I'') : T9 n I I'' := ⟨h.1.tr h2.1, fun f a b c => (h2.2.1 f a b c).trans (h.2.1 f a b c), h2.2.2.1.trans h.2.2.1, fun x hx => (h2.2.2.2 x hx).trans (h.2.2.2 x hx)⟩
theorem T8.t9 {n : Nat} {I I' : Mem} (h : T8 I I') : T9 n I I' := ⟨h.1.sub (fun x hx => by simp [LT9, hx]), fun f a b _ => h.2.1 f a b, h.2.2, fun x _ => by rw [h.1.g (c := 62) (z := 0) (by simp [LT8, LT])]⟩
theorem T9.kr {n : Nat} {I I' : Mem} (h : T9 n I I') : Kr I I' := h.1.kr (by simp [LT9, LT8, LT])
theorem GR_t9 {I I' : Mem} {a : Abs} (h : GR I a) (t : T9 (bn (xB (yE a))) I I') (h30 : I' 8 0 0 30 = I 8 0 0 30) : GR I' a := by
  obtain ⟨F, k, _, w⟩ := t
  have F' : ∀ c, (c, 0) ∉ LT9 → I' c 0 = I c 0 := fun c hc => F.g hc
  obtain ⟨g1, ⟨b1, b2, b3, b4, b5⟩, g3, g4, g5, g6⟩ := h
  obtain ⟨x1, x2, x3, x4, x5⟩ := b1
  refine ⟨RL_fr g1 F (by simp [LT9, LT8, LT]), ⟨⟨?_, ?_, ?_, ?_, ?_⟩, ?_, ?_, ?_, ?_⟩, ?_, ?_, ?_, ?_⟩
  · rw [F' 53 (by simp [LT9, LT8, LT])]; exact x1
  · rw [k 29 (by omega) (by omega) (by omega)]; exact x2
  · refine ⟨by rw [h30]; exact x3.1, fun q hq => ?_⟩
    rw [w _ (by omega), w _ (by omega), w _ (by omega)]; exact x3.2 q hq
  · unfold rR; rw [F' 63 (by simp [LT9, LT8, LT]), k 31 (by omega) (by omega) (by omega)]; exact x4
  · unfold rR; rw [F' 64 (by simp [LT9, LT8, LT]), k 32 (by omega) (by omega) (by omega)]; exact x5
  · rw [k 33 (by omega) (by omega) (by omega)]; exact b2
  · unfold pkd; rw [F' 65 (by simp [LT9, LT8, LT])]; exact b3
  · unfold rSn; rw [k 34 (by omega) (by omega) (by omega), F' 77 (by simp [LT9, LT8, LT]), F' (77 + 1) (by simp [LT9, LT8, LT]), F' (77 + 2) (by simp [LT9, LT8, LT])]; exact b4
  · rw [F' 59 (by simp [LT9, LT8, LT])]; exact b5
  · rw [k 54 (by omega) (by omega) (by omega)]; exact g3
  · unfold RV pkd rSn
    rw [F' 80 (by simp [LT9, LT8, LT]), F' 81 (by simp [LT9, LT8, LT]), F' 82 (by simp [LT9, LT8, LT]), F' (82 + 1) (by simp [LT9, LT8, LT]), F' (82 + 2) (by simp [LT9, LT8, LT]), F' 85 (by simp [LT9, LT8, LT]), k 55 (by omega) (by omega) (by omega), k 56 (by omega) (by omega) (by omega)]
    exact g4
  · rw [k 14 (by omega) (by omega) (by omega), F' 60 (by simp [LT9, LT8, LT])]; exact g5
  · rw [k 23 (by omega) (by omega) (by omega)]; exact g6
section
variable {I : Mem} {P : PMem} {l : Nat} {a : Abs} {O : Nat → Int64} {D : Bool} {n : Nat}
theorem R_tell3 {k : Int32 × Mem → Option (Int32 × Mem)} {v : Int32} (hA : AOK a) (hR : GR I a)
    (hk : ∀ r : Int32 × Mem, qRQ r.2 (yL a) (xB (yE a)) (tw0 (yL a)) (dy0 (yL a) (xB (yE a))) (qmt (yL a) (xB (yE a)) (tw0 (yL a)) (dy0 (yL a) (xB (yE a))) (binns (xB (yE a)))) (qdf (yL a)) 0 (-1) → jud r.2 (yL a) (xB (yE a)) (tw0 (yL a)) (dy0 (yL a) (xB (yE a))) (binns (xB (yE a))) (qdf (yL a)) 0 (-1) → GR r.2 a →
      wp (k r) (fun w => w.1 = v ∧ T9 (bn (xB (yE a))) r.2 w.2 ∧ w.2 8 0 0 30 = r.2 8 0 0 30)) :
    wp ((f_X8_tellNow (upd4 I 8 0 0 2 0)).bind k) (fun w => w.1 = v ∧ w.2 8 0 0 2 = 0 ∧ GR w.2 a ∧ Kr I w.2) := by
  obtain ⟨hR0, hK0⟩ := r_code hR 0
  refine wp_bind (s_tell hA hR0) ?_
  rintro r ⟨r1, r2, r3, F, K, e2, _⟩
  have hR1 := GR_t hR0 F K
  refine wp_mono (hk r r2 r3 hR1) ?_
  rintro w ⟨w1, w2, w3⟩
  exact ⟨w1, by rw [w2.2.2.1, e2]; exact code0 I, GR_t9 hR1 w2 w3, (hK0.tr (LT8_kr F)).tr w2.kr⟩
/-- a word's row behind the others -/
theorem r_put {L : Land} {B : Ben} {tw : Nat → Nat → Nat} {dy : Nat → Nat → Int32} {mt : Nat → Nat → Int32} {df mu mc : Int32} {I3 : Mem} {t : Nat} {c d : Int32} (h4 : bn B ≤ 4)
    (h : ∃ B', bn B' = bn B + 1 ∧ (∀ k, k < bn B → bw1 B' k = bw1 B k ∧ bwt B' k = bwt B k ∧ bw3 B' k = bw3 B k) ∧ bd0 B' = bd0 B ∧ binns B' = binns B ∧ bnf B' = bnf B ∧ bf1 B' = bf1 B ∧ bf2 B' = bf2 B ∧ bf3 B' = bf3 B ∧ bnl B' = bnl B ∧ bgt B' = bgt B ∧ bg2 B' = bg2 B ∧ bg3 B' = bg3 B ∧ qRQ I3 L B' tw dy mt df mu mc) :
    wp (f_X8_putRow 62 0 0 I3 (I3 8 0 0 30 - 1) c (nI t) d) (fun I4 => qRQ I4 L (bWord B c t d) tw dy mt df mu mc ∧ T9 (bn B) I3 I4 ∧ I4 8 0 0 30 = I3 8 0 0 30 ∧ I4 8 0 = I3 8 0) := by
  obtain ⟨B', e1, e2, f1, f2, f3, f4, f5, f6, f7, f8, f9, f10, rq⟩ := h
  obtain ⟨q1, q2, q3, q4, q5, q6, q7, q8, q9⟩ := rq
  have h30 : I3 8 0 0 30 = nI (bn B + 1) := by rw [← e1]; exact q3.1
  have x0 : (3 : Int32) * nI (bn B) = nI (3 * bn B) := pk_mul 3 _
  have x2 : nI (3 * bn B) + (2 : Int32) = nI (3 * bn B + 2) := nI_add _ 2
  have c15 : cL 62 0 = 15 := rfl
  unfold f_X8_putRow
  rw [h30, nI_p1 (by omega), Nat.add_sub_cancel, x0, x2, nI_1, c15]
  refine wp_gd (inb_n (by omega)) (wp_bnd (wp_gd (inb_n (by omega)) (wp_bnd (wp_gd (inb_n (by omega)) (wp_bnd (wp_some ?_))))))
  rw [nI_clamp (by omega), nI_clamp (by omega), nI_clamp (by omega)]
  have u : ∀ c', c' ≠ 62 → upd4 (upd4 (upd4 I3 62 0 0 (3 * bn B) c) 62 0 0 (3 * bn B + 1) (nI t)) 62 0 0 (3 * bn B + 2) d c' = I3 c' := fun c' hc => by rw [u_c hc, u_c hc, u_c hc]
  have hH : qH L B' tw dy = qH L B tw dy := by unfold qH; rw [f3, f4, f5, f6]
  refine ⟨⟨?_, ?_, ?_, ?_, ?_, ?_, ?_, ?_, ?_⟩, ⟨((Fr.up (by simp [LT9])).tr (Fr.up (by simp [LT9]))).tr (Fr.up (by simp [LT9])), fun f _ _ _ => by rw [u 8 (by omega)], by rw [u 8 (by omega)], fun x hx => ?_⟩, by rw [u 8 (by omega)]; exact h30, by rw [u 8 (by omega)]⟩
  · unfold rJ; rw [u 50 (by omega), u 55 (by omega), u 68 (by omega), u 69 (by omega)]; exact q1
  · unfold rN; rw [u 50 (by omega), u 61 (by omega)]; exact q2
  · refine ⟨by rw [u 8 (by omega)]; exact h30, fun k hk => ?_⟩
    have hk' : k < bn B + 1 := hk
    show _ = (if k = bn B then c else bw1 B k) ∧ _ = nI (if k = bn B then t else bwt B k) ∧ _ = (if k = bn B then d else bw3 B k)
    by_cases e : k = bn B
    · rw [if_pos e, if_pos e, if_pos e, e]
      simp only [u_if]
      refine ⟨?_, ?_, ?_⟩
      · rw [if_neg (by omega), if_neg (by omega), if_pos ⟨trivial, trivial⟩]
      · rw [if_neg (by omega), if_pos ⟨trivial, trivial⟩]
      · rw [if_pos ⟨trivial, trivial⟩]
    · rw [if_neg e, if_neg e, if_neg e]
      obtain ⟨w1, w2, w3⟩ := e2 k (by omega)
      obtain ⟨y1, y2, y3⟩ := q3.2 k (by omega)
      simp only [u_if]
      refine ⟨?_, ?_, ?_⟩
      · rw [if_neg (by omega), if_neg (by omega), if_neg (by omega), y1, w1]
      · rw [if_neg (by omega), if_neg (by omega), if_neg (by omega), y2]
        show nI (bwt B' k) = _
        rw [w2]
      · rw [if_neg (by omega), if_neg (by omega), if_neg (by omega), y3, w3]
  · have t1 : qtl L B' tw dy = qtl L B tw dy := by unfold qtl; rw [hH]
    have t2 : qsd L B' tw dy = qsd L B tw dy := by unfold qsd; rw [hH]
    have t3 : qsn L B' tw dy = qsn L B tw dy := by unfold qsn; rw [hH]
    have t4 : qgv L B' tw dy = qgv L B tw dy := by unfold qgv; rw [hH]
    rw [t1, t2, t3, t4] at q4
    unfold vR
    rw [u 71 (by omega), u 72 (by omega), u 73 (by omega)]
    exact q4
  · rw [u 70 (by omega)]; exact q5
  · rw [u 8 (by omega)]; exact q6
  · rw [u 8 (by omega)]; exact q7
  · rw [u 8 (by omega)]; exact q8
  · rw [u 50 (by omega)]; exact q9
  · simp only [u_if]
    rw [if_neg (by omega), if_neg (by omega), if_neg (by omega)]
theorem n_61 : (61 : Int32) = nI 61 := rfl
theorem ff_app (p : Nat → Bool) (k m m' : Nat) : ff p k (m + m') = if ff p k m < k + m then ff p k m else ff p (k + m) m' := by
  have b := ff_b p m k
  by_cases e : ff p k m < k + m
  · rw [if_pos e]
    exact ff_is p b.1 (by omega) (ff_yes p m k e) (fun i a h => ff_no p m k i a h)
  · rw [if_neg e]
    have b2 := ff_b p m' (k + m)
    by_cases e2 : ff p (k + m) m' < k + m + m'
    · refine ff_is p (by omega) (by omega) (ff_yes p m' (k + m) e2) (fun i a h => ?_)
      by_cases q : i < k + m
      · exact ff_no p m k i a (by omega)
      · exact ff_no p m' (k + m) i (by omega) h
    · have : ff p (k + m) m' = k + (m + m') := by omega
      rw [this]
      refine ff_none p (fun i a h => ?_)
      by_cases q : i < k + m
      · exact ff_no p m k i a (by omega)
      · exact ff_no p m' (k + m) i (by omega) (by omega)
/-- the trial of word k: to town k % T on day k / T -/
def fpq (a : Abs) (c k : Nat) : Bool := decide ((qtr (yL a) (xB (yE a)) (tw0 (yL a)) (dy0 (yL a) (xB (yE a))) (binns (xB (yE a))) (bs (fun j => rcW (qH (yL a) (xB (yE a)) (tw0 (yL a)) (dy0 (yL a) (xB (yE a)))) (lnw (yL a)) (lns (yL a)) (tw0 (yL a)) (dy0 (yL a) (xB (yE a))) c j (k % lT (yL a)) (nI (k / lT (yL a)))) 0 (lJ (yL a)) 0) (qdf (yL a)) c).1 = 0)
def fan (T : Nat) (v2 : Int32) (N r : Nat) : Int32 := if r < N then (if v2 = 0 then nI (r / T) else nI (r % T)) else -1
theorem q_word (hA : AOK a) {I1 : Mem} {P1 : PMem} (hC1 : GC I1 P1 l a) (hst : stl I1 P1 0 l (yL a) (xB (yE a))) {c t : Nat} (hc : c < lC (yL a)) (ht : t < lT (yL a)) (d : Int32) :
    f_X1_reachedByWord I1 P1 0 (nI c) (nI t) d = some (bs (fun j => rcW (qH (yL a) (xB (yE a)) (tw0 (yL a)) (dy0 (yL a) (xB (yE a)))) (lnw (yL a)) (lns (yL a)) (tw0 (yL a)) (dy0 (yL a) (xB (yE a))) c j t d) 0 (lJ (yL a)) 0) := by
  have hC6 := hA.1.2.2.1
  have S := B_SOK hA.1 (A_BOK hA).1 (fun _ => false)
  have nwd := CL_cNW (P := P1) (z := 0) hA.1 (A_BOK hA) hC1.2.1 hC1.2.2.1.1 hst.1
  exact c_byWord (H := qH (yL a) (xB (yE a)) (tw0 (yL a)) (dy0 (yL a) (xB (yE a)))) hst.2.2.2.1 nwd.1 S.2 (by omega) ht d (fun j hj => (hst.2.2.2.2.1.1 c hc j hj).1)
theorem c_free_40 (hA : AOK a) {I1 : Mem} {P1 : PMem} (hC1 : GC I1 P1 l a) (hst : stl I1 P1 0 l (yL a) (xB (yE a))) {c : Nat} (hc : c < lC (yL a)) {v2 : Int32} {d : Nat} (hd : d ≤ 60) {k30 : Mem → PMem → Int32 → Int32 → Int32 → Option ((Int32 × Mem × PMem) ⊕ Nat)} : ∀ m fu t, t + m = lT (yL a) → m < fu →
    f_X7_free_40 k30 fu I1 P1 (nI c) v2 (nI d) (nI t) = (if ff (fpq a c) (lT (yL a) * d + t) m < lT (yL a) * d + lT (yL a) then some (Sum.inl (if v2 = 0 then nI (ff (fpq a c) (lT (yL a) * d + t) m / lT (yL a)) else nI (ff (fpq a c) (lT (yL a) * d + t) m % lT (yL a)), I1, P1)) else k30 I1 P1 (nI c) v2 (nI (d + 1))) := by
  have hC6 := hA.1.2.2.1
  have hT9 := hA.1.1
  have hC0 := hC1
  have hst0 := hst
  obtain ⟨⟨p1, p2, p3⟩, c1, _⟩ := hC1
  obtain ⟨s1, s2, s3, s4, s5, s6⟩ := hst
  intro m
  induction m with
  | zero =>
    intro fu t hk hf
    obtain ⟨g, rfl⟩ := Nat.exists_eq_succ_of_ne_zero (by omega : fu ≠ 0)
    unfold f_X7_free_40
    rw [p1, gd_t (dlt p2), c1.2.1, if_pos (by rw [nI_leI (by omega) (by omega)]; omega), nI_1, if_neg]
    rw [ff]; omega
  | succ m ih =>
    intro fu t hk hf
    obtain ⟨g, rfl⟩ := Nat.exists_eq_succ_of_ne_zero (by omega : fu ≠ 0)
    have ht : t < lT (yL a) := by omega
    have e := c_trioWith (I := I1) (P := P1) s4 s5 hC6 hc (bs (fun j => rcW (qH (yL a) (xB (yE a)) (tw0 (yL a)) (dy0 (yL a) (xB (yE a)))) (lnw (yL a)) (lns (yL a)) (tw0 (yL a)) (dy0 (yL a) (xB (yE a))) c j t (nI d)) 0 (lJ (yL a)) 0) (qdf (yL a))
    have em : (lT (yL a) * d + t) % lT (yL a) = t := by rw [Nat.mul_add_mod]; exact Nat.mod_eq_of_lt ht
    have ed : (lT (yL a) * d + t) / lT (yL a) = d := by rw [Nat.mul_add_div (by omega), Nat.div_eq_of_lt ht, Nat.add_zero]
    have ep : fpq a c (lT (yL a) * d + t) = decide ((qtr (yL a) (xB (yE a)) (tw0 (yL a)) (dy0 (yL a) (xB (yE a))) (binns (xB (yE a))) (bs (fun j => rcW (qH (yL a) (xB (yE a)) (tw0 (yL a)) (dy0 (yL a) (xB (yE a)))) (lnw (yL a)) (lns (yL a)) (tw0 (yL a)) (dy0 (yL a) (xB (yE a))) c j t (nI d)) 0 (lJ (yL a)) 0) (qdf (yL a)) c).1 = 0) := by
      unfold fpq; rw [em, ed]
    have et : (trv (lJ (yL a)) (qtl (yL a) (xB (yE a)) (tw0 (yL a)) (dy0 (yL a) (xB (yE a)))) (qsd (yL a) (xB (yE a)) (tw0 (yL a)) (dy0 (yL a) (xB (yE a)))) (qst (yL a) (xB (yE a)) (tw0 (yL a)) (dy0 (yL a) (xB (yE a)))) (qgv (yL a) (xB (yE a)) (tw0 (yL a)) (dy0 (yL a) (xB (yE a)))) (qrc (yL a) (xB (yE a)) (tw0 (yL a)) (dy0 (yL a) (xB (yE a)))) (qmt (yL a) (xB (yE a)) (tw0 (yL a)) (dy0 (yL a) (xB (yE a))) (binns (xB (yE a)))) (bs (fun j => rcW (qH (yL a) (xB (yE a)) (tw0 (yL a)) (dy0 (yL a) (xB (yE a)))) (lnw (yL a)) (lns (yL a)) (tw0 (yL a)) (dy0 (yL a) (xB (yE a))) c j t (nI d)) 0 (lJ (yL a)) 0) (qdf (yL a)) c).1 = (qtr (yL a) (xB (yE a)) (tw0 (yL a)) (dy0 (yL a) (xB (yE a))) (binns (xB (yE a))) (bs (fun j => rcW (qH (yL a) (xB (yE a)) (tw0 (yL a)) (dy0 (yL a) (xB (yE a)))) (lnw (yL a)) (lns (yL a)) (tw0 (yL a)) (dy0 (yL a) (xB (yE a))) c j t (nI d)) 0 (lJ (yL a)) 0) (qdf (yL a)) c).1 := rfl
    have ih' := ih g (t + 1) (by omega) (by omega)
    unfold f_X7_free_40
    rw [p1, gd_t (dlt p2), c1.2.1, if_neg (by rw [nI_leI (by omega) (by omega)]; omega), q_word hA hC0 hst0 hc ht, Option.bind_some, s3, e, Option.bind_some, et, nI_1 t, ih']
    by_cases q : (qtr (yL a) (xB (yE a)) (tw0 (yL a)) (dy0 (yL a) (xB (yE a))) (binns (xB (yE a))) (bs (fun j => rcW (qH (yL a) (xB (yE a)) (tw0 (yL a)) (dy0 (yL a) (xB (yE a)))) (lnw (yL a)) (lns (yL a)) (tw0 (yL a)) (dy0 (yL a) (xB (yE a))) c j t (nI d)) 0 (lJ (yL a)) 0) (qdf (yL a)) c).1 = 0
    · have e9 : ff (fpq a c) (lT (yL a) * d + t) (m + 1) = lT (yL a) * d + t := by rw [ff, ep, decide_eq_true q, if_pos rfl]
      have hlt : lT (yL a) * d + t < lT (yL a) * d + lT (yL a) := by omega
      rw [if_pos q, e9, if_pos hlt, em, ed]
      by_cases q2 : v2 = 0
      · rw [if_pos q2, if_pos q2]
      · rw [if_neg q2, if_neg q2]
    · have e9 : ff (fpq a c) (lT (yL a) * d + t) (m + 1) = ff (fpq a c) (lT (yL a) * d + (t + 1)) m := by rw [ff, ep, decide_eq_false q, if_neg (by decide)]; rfl
      rw [if_neg q, e9]
theorem c_free_30 (hA : AOK a) {I1 : Mem} {P1 : PMem} (hC1 : GC I1 P1 l a) (hst : stl I1 P1 0 l (yL a) (xB (yE a))) {c : Nat} (hc : c < lC (yL a)) {v2 : Int32} : ∀ m fu d, d + m = 61 → m < fu →
    f_X7_free_30 fu I1 P1 (nI c) v2 (nI d) = some (Sum.inl (fan (lT (yL a)) v2 (lT (yL a) * 61) (ff (fpq a c) (lT (yL a) * d) (lT (yL a) * m)), I1, P1)) := by
  have hT9 := hA.1.1
  intro m
  induction m with
  | zero =>
    intro fu d hk hf
    obtain ⟨g, rfl⟩ := Nat.exists_eq_succ_of_ne_zero (by omega : fu ≠ 0)
    have hd : d = 61 := by omega
    subst hd
    unfold f_X7_free_30
    rw [show (60 : Int32) = nI 60 from rfl, if_pos (by rw [nI_ltI (by omega) (by omega)]; omega), Nat.mul_zero, ff, fan, if_neg (by omega)]
  | succ m ih =>
    intro fu d hk hf
    obtain ⟨g, rfl⟩ := Nat.exists_eq_succ_of_ne_zero (by omega : fu ≠ 0)
    have e := c_free_40 hA hC1 hst hc (v2 := v2) (by omega : d ≤ 60) (k30 := f_X7_free_30 g) (lT (yL a)) FU 0 (by omega) (by unfold FU; omega)
    rw [Nat.add_zero] at e
    unfold f_X7_free_30
    rw [show (60 : Int32) = nI 60 from rfl, if_neg (by rw [nI_ltI (by omega) (by omega)]; omega)]
    refine e.trans ?_
    have h61 : lT (yL a) * d + lT (yL a) ≤ lT (yL a) * 61 := by rw [← Nat.mul_succ]; exact Nat.mul_le_mul_left _ (by omega)
    have es : lT (yL a) * (m + 1) = lT (yL a) + lT (yL a) * m := by rw [Nat.mul_succ, Nat.add_comm]
    rw [ih g (d + 1) (by omega) (by omega), es, Nat.mul_succ (lT (yL a)) d]
    by_cases q : ff (fpq a c) (lT (yL a) * d) (lT (yL a)) < lT (yL a) * d + lT (yL a)
    · have e10 : ff (fpq a c) (lT (yL a) * d) (lT (yL a) + lT (yL a) * m) = ff (fpq a c) (lT (yL a) * d) (lT (yL a)) := by rw [ff_app, if_pos q]
      have hlt : ff (fpq a c) (lT (yL a) * d) (lT (yL a)) < lT (yL a) * 61 := by omega
      rw [e10, if_pos q, fan, if_pos hlt]
    · have e10 : ff (fpq a c) (lT (yL a) * d) (lT (yL a) + lT (yL a) * m) = ff (fpq a c) (lT (yL a) * d + lT (yL a)) (lT (yL a) * m) := by rw [ff_app, if_neg q]
      rw [e10, if_neg q]
end
