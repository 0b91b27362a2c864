/-! pairs of calls: season -/
def dr (s : Int32) : Int32 := s * 1103515245 + 12345
def db (s : Int32) : Nat := (jushr (dr s) 16).toBitVec.toNat % 2 ^ 15
theorem db_b (s : Int32) : db s < 32768 := Nat.mod_lt _ (by omega)
theorem db_c (s : Int32) : jushr (dr s) 16 &&& 32767 = nI (db s) := pk_and _ 15 (by decide)
theorem db_r (s : Int32) : jshr (dr s) 16 &&& 32767 = nI (db s) := by
  rw [← db_c]
  apply b_ext
  intro i hi
  have m : ∀ j, j < 32 → bt 32767 j = decide (j < 15) := by decide +kernel
  rw [b_and, b_and, m i hi]
  by_cases q : i < 15
  · rw [show (16 : Int32) = nI 16 from rfl]
    unfold jshr jushr
    rw [b_sshr 16 (by omega) _ hi, b_ushr 16 (by omega), if_pos (by omega)]
  · rw [decide_eq_false q, Bool.and_false, Bool.and_false]
theorem rem_n {m n : Nat} (hm : m < 2 ^ 31) (h0 : 0 < n) (hn : n < 2 ^ 31) : jrem (nI m) (nI n) = nI (m % n) := pk_rem hm h0 hn
theorem c_draw {I : Mem} {s : Int32} {n : Nat} (h : I 2 0 0 0 = s) (h0 : 0 < n) (hn : n < 2 ^ 31) : f_X2_draw I (nI n) = some (nI (db s % n), upd4 I 2 0 0 0 (dr s)) := by
  have b := db_b s
  unfold f_X2_draw
  rw [bnd_e, bnd_e, h]
  show (if nI n ≤ 0 then _ else _) = _
  rw [u_at]
  show (if nI n ≤ 0 then _ else gd (nI n != 0) (some (jrem (jushr (dr s) 16 &&& 32767) (nI n), upd4 I 2 0 0 0 (dr s)))) = _
  rw [if_neg (nI_nle h0 hn), gd_t (by simp [nI_ne0 h0 hn]), db_c, rem_n (by omega) h0 hn]
theorem r_draw {I : Mem} {s : Int32} {n : Nat} (h : I 8 0 0 53 = s) (h0 : 0 < n) (hn : n < 2 ^ 31) : f_X8_drawOf I (nI n) = some (nI (db s % n), upd4 I 8 0 0 53 (dr s)) := by
  have b := db_b s
  unfold f_X8_drawOf
  rw [bnd_e, h, gd_t (by simp [nI_ne0 h0 hn]), u_at]
  show some (jrem (jshr (dr s) 16 &&& 32767) (nI n), upd4 I 8 0 0 53 (dr s)) = _
  rw [db_r, rem_n (by omega) h0 hn]
def bFl (B : Ben) (t : Nat) (d w : Int32) : Ben := (bd0 B, binns B, bnf B, bf1 B, bf2 B, bf3 B, bnl B + 1, (fun k => if k = bnl B then t else bgt B k), (fun k => if k = bnl B then d else bg2 B k), (fun k => if k = bnl B then w else bg3 B k), bn B, bw1 B, bwt B, bw3 B)
def sF (T : Nat) (B : Ben) (s : Int32) : Ben := bFl B (db s % T) (nI (db (dr s) % 30)) (nI (db (dr (dr s)) % 6))
def s3 (s : Int32) : Int32 := dr (dr (dr s))
def yB (T : Nat) (B : Ben) (s : Int32) : Ben := if T = 0 then B else sF T (sF T B s) (s3 s)
def yS (T : Nat) (s : Int32) : Int32 := if T = 0 then s else s3 (s3 s)
def yN (a : Abs) (s : Int32) : Nat := gcn (yL a) (yB (lT (yL a)) (xB (yE a)) s) (tw0 (yL a)) (dy0 (yL a) (xB (yE a))) (binns (xB (yE a))) (qdf (yL a)) 0 (-1)
theorem mtg_fl {inns : Int32} {rd : Nat → Nat → Int32} {ns : Nat → Nat} {tw : Nat → Nat → Nat} {dy : Nat → Nat → Int32} {B : Ben} {t : Nat} {d w : Int32} {x y : Nat} {v : Int32} :
    mtg inns rd ns tw dy (bnl (bFl B t d w)) (bgt (bFl B t d w)) (bg2 (bFl B t d w)) (bg3 (bFl B t d w)) x y v = (mtg inns rd ns tw dy (bnl B) (bgt B) (bg2 B) (bg3 B) x y v || (decide (d = v) && (wetJ rd ns tw dy t v w x && wetJ rd ns tw dy t v w y))) := by
  unfold mtg
  show (innM inns ns tw dy x y v || ex (floM rd ns tw dy (bgt (bFl B t d w)) (bg2 (bFl B t d w)) (bg3 (bFl B t d w)) x y v) 0 (bnl B + 1)) = _
  rw [ex_snoc, ← Bool.or_assoc, Nat.zero_add]
  congr 1
  · congr 1
    refine ex_cong (fun i _ hi => ?_)
    unfold floM
    show (decide ((if i = bnl B then d else bg2 B i) = v) && (wetJ rd ns tw dy (if i = bnl B then t else bgt B i) v (if i = bnl B then w else bg3 B i) x && wetJ rd ns tw dy (if i = bnl B then t else bgt B i) v (if i = bnl B then w else bg3 B i) y)) = _
    rw [if_neg (by omega), if_neg (by omega), if_neg (by omega)]
  · unfold floM
    show (decide ((if bnl B = bnl B then d else bg2 B (bnl B)) = v) && (wetJ rd ns tw dy (if bnl B = bnl B then t else bgt B (bnl B)) v (if bnl B = bnl B then w else bg3 B (bnl B)) x && wetJ rd ns tw dy (if bnl B = bnl B then t else bgt B (bnl B)) v (if bnl B = bnl B then w else bg3 B (bnl B)) y)) = _
    rw [if_pos rfl, if_pos rfl, if_pos rfl]
theorem sF_b {L : Land} {B : Ben} {s : Int32} (hT : 0 < lT L) (hB : fldW (bnl B) (lT L) (bgt B) (bg2 B) (bg3 B)) : fldW (bnl (sF (lT L) B s)) (lT L) (bgt (sF (lT L) B s)) (bg2 (sF (lT L) B s)) (bg3 (sF (lT L) B s)) := by
  intro k hk
  have hk' : k < bnl B + 1 := hk
  show (if k = bnl B then _ else bgt B k) < lT L ∧ 0 ≤ (if k = bnl B then _ else bg2 B k).toInt ∧ (if k = bnl B then _ else bg2 B k).toInt ≤ 114 ∧ (if k = bnl B then _ else bg3 B k).toInt ≤ 1000
  by_cases q : k = bnl B
  · rw [if_pos q, if_pos q, if_pos q]
    have m1 : db s % lT L < lT L := Nat.mod_lt _ hT
    have m2 : db (dr s) % 30 < 30 := Nat.mod_lt _ (by omega)
    have m3 : db (dr (dr s)) % 6 < 6 := Nat.mod_lt _ (by omega)
    rw [nI_toInt (by omega), nI_toInt (by omega)]
    omega
  · rw [if_neg q, if_neg q, if_neg q]; exact hB k (by omega)
theorem yB_ok {L : Land} {B : Ben} {s : Int32} (h : BOK L B) (h4 : bnl B ≤ 4) : BOK L (yB (lT L) B s) := by
  obtain ⟨b1, b2, b3, b4, b5, b6⟩ := h
  unfold yB
  by_cases q : lT L = 0
  · rw [if_pos q]; exact ⟨b1, b2, b3, b4, b5, b6⟩
  · rw [if_neg q]
    refine ⟨b1, b2, ?_, sF_b (by omega) (sF_b (by omega) b4), b5, b6⟩
    show bnl B + 1 + 1 ≤ 6
    omega
section
variable {I : Mem} {P : PMem} {l : Nat} {a : Abs} {O : Nat → Int64} {D : Bool} {n : Nat}
theorem GC_s {I' : Mem} (h : GC I P l a) (F : Fr [(2, 0)] I I') : GC I' P l a := by
  have e : ∀ c, c ≠ 2 → I' c = I c := fun c hc => F.gc (fun z => by simp; omega)
  obtain ⟨p, c1, ⟨x1, x2, x3, x4⟩, c3, c4, c5, c6, c7⟩ := h
  have eB : ∀ c, c ∈ [0, 6, 9, 44, 45, 46] → I' c = I c := fun c hc => e c (by simp at hc; omega)
  have eW : ∀ c, c ∈ [6, 44, 45, 46] → I' c = I c := fun c hc => e c (by simp at hc; omega)
  refine ⟨p, CL_eq c1 (fun c hc => by rw [e c (by simp at hc; omega)]), ⟨CB_eq x1 eB, cRw_eq x2 eW, cRw_eq x3 eW, by rw [e 10 (by omega)]; exact x4⟩, by rw [e 7 (by omega)]; exact c3, fun q => ?_, by rw [e 7 (by omega), e 47 (by omega)]; exact c5, by rw [e 7 (by omega)]; exact c6, ?_⟩
  · obtain ⟨w1, w2, w3, w4⟩ := c4 q
    exact ⟨CB_eq w1 eB, cRw_eq w2 eW, cRw_eq w3 eW, by rw [e 10 (by omega)]; exact w4⟩
  · rw [e 7 (by omega)]
    exact c7.imp id (fun h => ⟨h.1, stl_eq h.2 (fun c hc => e c (by simp at hc; omega)) (by rw [e 3 (by omega)]) (by rw [e 36 (by omega)]) rfl⟩)
/-- the trial court between two years -/
def seT (I : Mem) (P : PMem) (l : Nat) (a : Abs) (s : Int32) : Prop := GC I P l a ∧ ldT I P l a (tw0 (yL a)) (dy0 (yL a) (xB (yE a))) ∧ heard I 1 (yL a) (xB (yE a)) (tw0 (yL a)) (dy0 (yL a) (xB (yE a))) ∧ I 2 0 0 0 = s
theorem seT_fr {I' : Mem} {s : Int32} {S : List (Nat × Nat)} (h : seT I P l a s) (F : Fr S I I') (hS : ∀ x, x ∈ S → x = (23, 1) ∨ x = (24, 1)) : seT I' P l a s := by
  obtain ⟨h1, h2, h3, h4⟩ := h
  have F' : Fr [(23, 1), (24, 1)] I I' := F.sub (fun x hx => by rcases hS x hx with q | q <;> simp [q])
  exact ⟨GC_tr (P' := P) h1 (F'.sub (by simp [TRI])) (fun _ _ _ => rfl), ⟨h2.1, h2.2.1, by rw [F'.g (c := 1) (z := 1) (by simp)]; exact h2.2.2.1, cJ_fr h2.2.2.2 F' (by simp)⟩, heard_fr h3 F' (by simp), by rw [F'.g (c := 2) (z := 0) (by simp)]; exact h4⟩
theorem seT_s {s s' : Int32} (h : seT I P l a s) : seT (upd4 I 2 0 0 0 s') P l a s' := by
  obtain ⟨h1, h2, h3, h4⟩ := h
  have F : Fr [(2, 0)] I (upd4 I 2 0 0 0 s') := Fr.up (by simp)
  exact ⟨GC_s h1 F, ⟨h2.1, h2.2.1, by rw [F.g (c := 1) (z := 1) (by simp)]; exact h2.2.2.1, cJ_fr h2.2.2.2 F (by simp)⟩, heard_fr h3 F (by simp), u_at⟩
theorem c_fl {B : Ben} {inns s : Int32} (hA : AOK a) (hT : 0 < lT (yL a)) (h : seT I P l a s) (hm : mS I 1 (lJ (yL a)) (mtg inns (lrd (yL a)) (lns (yL a)) (tw0 (yL a)) (dy0 (yL a) (xB (yE a))) (bnl B) (bgt B) (bg2 B) (bg3 B))) :
    wp ((f_X2_draw I (nI (lT (yL a)))).bind fun y1 => (f_X2_draw y1.2 30).bind fun y2 => (f_X2_draw y2.2 6).bind fun y3 => f_X1_meetInFlood P 1 y3.2 y1.1 y2.1 y3.1) (fun I' => seT I' P l a (s3 s) ∧ Kc I I' ∧ mS I' 1 (lJ (yL a)) (mtg inns (lrd (yL a)) (lns (yL a)) (tw0 (yL a)) (dy0 (yL a) (xB (yE a))) (bnl (sF (lT (yL a)) B s)) (bgt (sF (lT (yL a)) B s)) (bg2 (sF (lT (yL a)) B s)) (bg3 (sF (lT (yL a)) B s)))) := by
  have hT9 := hA.1.1
  have S := B_SOK hA.1 (A_BOK hA).1 (fun _ => false)
  rw [c_draw h.2.2.2 hT (by omega), Option.bind_some]
  have e1 : upd4 I 2 0 0 0 (dr s) 2 0 0 0 = dr s := u_at
  rw [show (30 : Int32) = nI 30 from rfl, c_draw (I := upd4 I 2 0 0 0 (dr s)) e1 (by omega) (by omega), Option.bind_some]
  have e2 : upd4 (upd4 I 2 0 0 0 (dr s)) 2 0 0 0 (dr (dr s)) 2 0 0 0 = dr (dr s) := u_at
  rw [show (6 : Int32) = nI 6 from rfl, c_draw (I := upd4 (upd4 I 2 0 0 0 (dr s)) 2 0 0 0 (dr (dr s))) e2 (by omega) (by omega), Option.bind_some]
  have h3 : seT (upd4 (upd4 (upd4 I 2 0 0 0 (dr s)) 2 0 0 0 (dr (dr s))) 2 0 0 0 (dr (dr (dr s)))) P l a (s3 s) := seT_s (seT_s (seT_s h))
  have F3 : Fr [(2, 0)] I (upd4 (upd4 (upd4 I 2 0 0 0 (dr s)) 2 0 0 0 (dr (dr s))) 2 0 0 0 (dr (dr (dr s)))) := ((Fr.up (by simp)).tr (Fr.up (by simp))).tr (Fr.up (by simp))
  have m2 : db (dr s) % 30 < 30 := Nat.mod_lt _ (by omega)
  have hD := CL_cD (z := 1) (P := P) hA.1 h3.1.2.1 h3.2.1.1
  show wp (f_X1_meetInFlood P 1 (upd4 (upd4 (upd4 I 2 0 0 0 (dr s)) 2 0 0 0 (dr (dr s))) 2 0 0 0 (dr (dr (dr s)))) (nI (db s % lT (yL a))) (nI (db (dr s) % 30)) (nI (db (dr (dr s)) % 6))) _
  refine wp_mono (c_flood (t := db s % lT (yL a)) (d := db (dr s) % 30) (wide := nI (db (dr (dr s)) % 6)) (p := mtg inns (lrd (yL a)) (lns (yL a)) (tw0 (yL a)) (dy0 (yL a) (xB (yE a))) (bnl B) (bgt B) (bg2 B) (bg3 B)) (by omega) (Nat.mod_lt _ hT) S.2 (fun x y v => mtg_symm) h3.2.1.2.2.2 hD (fun x y hx hy hxy => by rw [F3.g (c := 23) (z := 1) (by simp)]; exact hm x y hx hy hxy)) ?_
  rintro I' ⟨F, m⟩
  refine ⟨seT_fr h3 F (by simp), (F3.kc (by simp)).tr (F.kc (by simp)), fun x y hx hy hxy => ?_⟩
  rw [m x y hx hy hxy]
  refine mv_cong (fun v _ => ?_)
  exact mtg_fl.symm
theorem c_year {s : Int32} (hA : AOK a) (h : seT I P l a s) : wp (f_X7_guiltyInYear P I) (fun r => r.1 = nI (yN a s) ∧ seT r.2 P l a (yS (lT (yL a)) s) ∧ Kc I r.2) := by
  have hT9 := hA.1.1
  have S := B_SOK hA.1 (A_BOK hA).1 (fun _ => false)
  have ei : I 0 0 0 1 = binns (xB (yE a)) := h.1.2.2.1.1.2.1
  unfold f_X7_guiltyInYear
  rw [ei]
  refine wp_bind (q_meet hA.1 (A_BOK hA) S h.1.2.1 h.1.2.2.1.1 h.2.1.2.2.2 h.2.1.1 h.2.1.2.1 _) ?_
  rintro I1 ⟨F1, m1⟩
  have h1 := seT_fr h F1 (by simp)
  have fin : ∀ I2 B' s', seT I2 P l a s' → B' = yB (lT (yL a)) (xB (yE a)) s → (∀ x y, x < lJ (yL a) → y < lJ (yL a) → x ≠ y → I2 23 1 x y = qmt (yL a) B' (tw0 (yL a)) (dy0 (yL a) (xB (yE a))) (binns (xB (yE a))) x y) → wp (f_X7_guiltyInYear_77 P I2) (fun r => r.1 = nI (yN a s) ∧ seT r.2 P l a s' ∧ Kc I2 r.2) := by
    intro I2 B' s' h2 hB' m2
    unfold f_X7_guiltyInYear_77
    refine wp_mono (q_trial hA S h2.1 h2.2.1 h2.2.2.1 m2) ?_
    rintro r ⟨r1, F⟩
    refine ⟨?_, seT_fr h2 F (by simp), F.kc (by simp)⟩
    rw [r1]
    subst hB'
    unfold yN gcn yB
    simp only [more0]
    split <;> rfl
  have k1 : Kc I I1 := F1.kc (by simp)
  obtain ⟨g, hFU⟩ : ∃ g, FU = g + 3 := ⟨1997, rfl⟩
  rw [hFU]
  have p2 : P 7 0 0 2 = l := h.1.1.1
  have l2 : l < 2 := h.1.1.2.1
  have tz : ∀ J, GC J P l a → J 3 l 0 0 = nI (lT (yL a)) := fun J hJ => hJ.2.1.2.1
  have as2 : ∀ {o : Option (Int32 × Mem)} {f : Int32 × Mem → Option Mem} {k : Mem → Option (Int32 × Mem)}, (o.bind fun y => (f y).bind k) = (o.bind f).bind k := by
    intro o f k; cases o <;> rfl
  by_cases hT : lT (yL a) = 0
  · unfold f_X7_guiltyInYear_16
    rw [p2, tz I1 h1.1, hT]
    refine wp_neg (by decide) (wp_gd (dlt l2) (wp_pos (by decide) ?_))
    refine wp_mono (fin I1 (xB (yE a)) s h1 (by unfold yB; rw [if_pos hT]) m1) ?_
    rintro r ⟨r1, r2, r3⟩
    refine ⟨r1, ?_, k1.tr r3⟩
    unfold yS; rw [if_pos rfl]; exact r2
  · have step : ∀ fu I2 s' (B : Ben) v, seT I2 P l a s' → mS I2 1 (lJ (yL a)) (mtg (binns (xB (yE a))) (lrd (yL a)) (lns (yL a)) (tw0 (yL a)) (dy0 (yL a) (xB (yE a))) (bnl B) (bgt B) (bg2 B) (bg3 B)) → ¬ (2 : Int32) ≤ v → ∀ {Q : Int32 × Mem → Prop}, (∀ I3, seT I3 P l a (s3 s') → Kc I2 I3 → mS I3 1 (lJ (yL a)) (mtg (binns (xB (yE a))) (lrd (yL a)) (lns (yL a)) (tw0 (yL a)) (dy0 (yL a) (xB (yE a))) (bnl (sF (lT (yL a)) B s')) (bgt (sF (lT (yL a)) B s')) (bg2 (sF (lT (yL a)) B s')) (bg3 (sF (lT (yL a)) B s'))) → wp (f_X7_guiltyInYear_16 P fu I3 (v + 1)) Q) → wp (f_X7_guiltyInYear_16 P (fu + 1) I2 v) Q := by
      intro fu I2 s' B v h2 m2 hv Q hq
      unfold f_X7_guiltyInYear_16
      rw [p2, tz I2 h2.1]
      refine wp_neg hv (wp_gd (dlt l2) (wp_neg (nI_nle (by omega) (by omega)) ?_))
      have c := c_fl (B := B) hA (by omega) h2 m2
      obtain ⟨I3, e3, h3, k3, m3⟩ := c
      obtain ⟨y1, f1, g1⟩ := Option.bind_eq_some_iff.mp e3
      obtain ⟨y2, f2, g2⟩ := Option.bind_eq_some_iff.mp g1
      obtain ⟨y3, f3, g3⟩ := Option.bind_eq_some_iff.mp g2
      rw [f1, Option.bind_some, f2, Option.bind_some, f3, Option.bind_some, g3, Option.bind_some]
      exact hq I3 h3 k3 m3
    refine step (g + 2) I1 s (xB (yE a)) 0 h1 m1 (by decide) (fun I2 h2 k2 m2 => ?_)
    refine step (g + 1) I2 (s3 s) _ (0 + 1) h2 m2 (by decide) (fun I3 h3 k3 m3 => ?_)
    unfold f_X7_guiltyInYear_16
    refine wp_pos (by decide) ?_
    refine wp_mono (fin I3 _ _ h3 ?_ m3) ?_
    · unfold yB; rw [if_neg hT]
    · rintro r ⟨r1, r2, r3⟩
      refine ⟨r1, ?_, ((k1.tr k2).tr k3).tr r3⟩
      unfold yS; rw [if_neg hT]; exact r2
end
