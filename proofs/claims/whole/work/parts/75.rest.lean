/-! what both hold: the relation at rest -/
def Bx : Type := (Nat → Ben) × (Nat) × (Nat → Int32) × (Nat → Int32) × (Nat → Int32) × (Nat) × (Nat → Nat) × (Nat → Nat) × (Nat → Bool) × (Nat → Int32)
def xh (x : Bx) : Nat → Ben := x.1
def xna (x : Bx) : Nat := x.2.1
def xa1 (x : Bx) : Nat → Int32 := x.2.2.1
def xa2 (x : Bx) : Nat → Int32 := x.2.2.2.1
def xa3 (x : Bx) : Nat → Int32 := x.2.2.2.2.1
def xsn (x : Bx) : Nat := x.2.2.2.2.2.1
def xs1 (x : Bx) : Nat → Nat := x.2.2.2.2.2.2.1
def xs2 (x : Bx) : Nat → Nat := x.2.2.2.2.2.2.2.1
def xs3 (x : Bx) : Nat → Bool := x.2.2.2.2.2.2.2.2.1
def xst (x : Bx) : Nat → Int32 := x.2.2.2.2.2.2.2.2.2
def Abs : Type := (Land) × (Bx) × (Bool) × (Bx) × (Nat) × (Nat → Nat) × (Int32)
def yL (x : Abs) : Land := x.1
def yE (x : Abs) : Bx := x.2.1
def yhi (x : Abs) : Bool := x.2.2.1
def yV (x : Abs) : Bx := x.2.2.2.1
def ytn (x : Abs) : Nat := x.2.2.2.2.1
def ytb (x : Abs) : Nat → Nat := x.2.2.2.2.2.1
def yfp (x : Abs) : Int32 := x.2.2.2.2.2.2
def xB (E : Bx) : Ben := xh E (xna E)
/-- one act taken back: from S' to S -/
def uRel (J : Nat) (k who bef : Int32) (S S' : Ben) : Prop :=
  (k = 0 ∧ (∃ w, w < J ∧ who = nI w ∧ ∀ j, j < J → bd0 S j = if j = w then bef else bd0 S' j) ∧ binns S = binns S' ∧ bn S = bn S' ∧ bnf S = bnf S' ∧ bnl S = bnl S' ∨
   k = 1 ∧ (∃ w, w < 9 ∧ who = nI w ∧ binns S = binns S' ^^^ jshl 1 (nI w)) ∧ (∀ j, j < J → bd0 S j = bd0 S' j) ∧ bn S = bn S' ∧ bnf S = bnf S' ∧ bnl S = bnl S' ∨
   k = 2 ∧ bn S + 1 = bn S' ∧ (∀ j, j < J → bd0 S j = bd0 S' j) ∧ binns S = binns S' ∧ bnf S = bnf S' ∧ bnl S = bnl S' ∨
   k = 3 ∧ bnf S + 1 = bnf S' ∧ (∀ j, j < J → bd0 S j = bd0 S' j) ∧ binns S = binns S' ∧ bn S = bn S' ∧ bnl S = bnl S' ∨
   k = 4 ∧ bnl S + 1 = bnl S' ∧ (∀ j, j < J → bd0 S j = bd0 S' j) ∧ binns S = binns S' ∧ bn S = bn S' ∧ bnf S = bnf S') ∧
  (∀ i, i < bn S → bw1 S i = bw1 S' i ∧ bwt S i = bwt S' i ∧ bw3 S i = bw3 S' i) ∧ (∀ i, i < bnf S → bf1 S i = bf1 S' i ∧ bf2 S i = bf2 S' i ∧ bf3 S i = bf3 S' i) ∧
  (∀ i, i < bnl S → bgt S i = bgt S' i ∧ bg2 S i = bg2 S' i ∧ bg3 S i = bg3 S' i)
def XOK (L : Land) (E : Bx) : Prop :=
  (∀ k, k ≤ xna E → BOK L (xh E k) ∧ bn (xh E k) ≤ 4 ∧ bnl (xh E k) ≤ 4) ∧ xna E ≤ 40 ∧ (∀ k, k < xna E → uRel (lJ L) (xa1 E k) (xa2 E k) (xa3 E k) (xh E k) (xh E (k + 1))) ∧
  xsn E ≤ 8 ∧ ∀ k, k < xsn E → xs1 E k < lC L ∧ xs2 E k < lJ L
def BxC (I : Mem) (b J : Nat) (E : Bx) : Prop :=
  CB I b J (xB E) ∧ cRw I (5 * b + 3) (xna E) (xa1 E) (xa2 E) (xa3 E) ∧ cRw I (5 * b + 4) (xsn E) (fun k => nI (xs1 E k)) (fun k => nI (xs2 E k)) (fun k => bI (xs3 E k)) ∧ ∀ k, k < 3 → I 10 b 0 k = xst E k
/-- a packed bench -/
def pkd (I : Mem) (c q J : Nat) (S : Ben) : Prop :=
  (∀ j, j < J → I c 0 0 (q + j) = bd0 S j) ∧ I c 0 0 (q + 5) = binns S ∧ I c 0 0 (q + 6) = nI (bn S) ∧ I c 0 0 (q + 7) = nI (bnf S) ∧ I c 0 0 (q + 8) = nI (bnl S) ∧
  (∀ k, k < bn S → I c 0 0 (q + 9 + 3 * k) = bw1 S k ∧ I c 0 0 (q + 9 + (3 * k + 1)) = nI (bwt S k) ∧ I c 0 0 (q + 9 + (3 * k + 2)) = bw3 S k) ∧
  (∀ k, k < bnf S → I c 0 0 (q + 21 + 3 * k) = bf1 S k ∧ I c 0 0 (q + 21 + (3 * k + 1)) = bf2 S k ∧ I c 0 0 (q + 21 + (3 * k + 2)) = bf3 S k) ∧
  (∀ k, k < bnl S → I c 0 0 (q + 33 + 3 * k) = nI (bgt S k) ∧ I c 0 0 (q + 33 + (3 * k + 1)) = bg2 S k ∧ I c 0 0 (q + 33 + (3 * k + 2)) = bg3 S k)
def rSn (I : Mem) (c f : Nat) (E : Bx) : Prop := I 8 0 0 f = nI (xsn E) ∧ ∀ k, k < xsn E → I c 0 0 k = nI (xs1 E k) ∧ I (c + 1) 0 0 k = nI (xs2 E k) ∧ I (c + 2) 0 0 k = bI (xs3 E k)
def RX (I : Mem) (J : Nat) (E : Bx) : Prop :=
  RB I J (xB E) ∧ I 8 0 0 33 = nI (xna E) ∧ (∀ k, k < xna E → pkd I 65 (45 * k) J (xh E k)) ∧ rSn I 77 34 E ∧ ∀ k, k < 3 → I 59 0 0 k = xst E k
def RV (I : Mem) (J : Nat) (E : Bx) : Prop :=
  pkd I 80 0 J (xB E) ∧ I 8 0 0 55 = nI (xna E) ∧ (∀ k, k < xna E → pkd I 81 (45 * k) J (xh E k)) ∧ rSn I 82 56 E ∧ ∀ k, k < 3 → I 85 0 0 k = xst E k
abbrev tw0 (L : Land) : Nat → Nat → Nat := twB L (fun _ => false)
abbrev dy0 (L : Land) (B : Ben) : Nat → Nat → Int32 := dyB L (fun _ => false) (bd0 B)
def stl (I : Mem) (P : PMem) (z l : Nat) (L : Land) (B : Ben) : Prop :=
  P 1 z 0 0 = l ∧ P 1 z 0 1 = 0 ∧ I 1 z 0 2 = qdf L ∧ cJ I P z (lJ L) (lns L) (tw0 L) (dy0 L B) ∧ qvS I z L B (tw0 L) (dy0 L B) (qmt L B (tw0 L) (dy0 L B) (binns B)) ∧
  ∀ c, c < lC L → I 24 z 0 c = (qtr L B (tw0 L) (dy0 L B) (binns B) 0 (qdf L) c).1
def sb (n : Nat) : Int32 := if n < 128 then nI n else nI n - 256
def GC (I : Mem) (P : PMem) (l : Nat) (a : Abs) : Prop :=
  (P 7 0 0 2 = l ∧ l < 2 ∧ P 7 0 0 3 = 1 - l) ∧ CL I l (yL a) ∧ BxC I 0 (lJ (yL a)) (yE a) ∧ I 7 0 0 7 = bI (yhi a) ∧ (yhi a = true → BxC I 1 (lJ (yL a)) (yV a)) ∧
  (I 7 0 0 1 = nI (ytn a) ∧ ∀ k, k < ytn a → I 47 0 0 k = sb (ytb a k)) ∧ I 7 0 0 11 = yfp a ∧ (I 7 0 0 10 = 0 ∨ (I 7 0 0 10 = 1 ∧ stl I P 0 l (yL a) (xB (yE a))))
def GR (I : Mem) (a : Abs) : Prop :=
  LdR I (yL a) ∧ RX I (lJ (yL a)) (yE a) ∧ I 8 0 0 54 = bI (yhi a) ∧ (yhi a = true → RV I (lJ (yL a)) (yV a)) ∧ (I 8 0 0 14 = nI (ytn a) ∧ ∀ k, k < ytn a → I 60 0 0 k = nI (ytb a k)) ∧ I 8 0 0 23 = yfp a
def AOK (a : Abs) : Prop := LOK (yL a) ∧ XOK (yL a) (yE a) ∧ (yhi a = true → XOK (yL a) (yV a)) ∧ ytn a ≤ 600 ∧ ∀ k, ytb a k < 256
/-- the class's part changed alone; the reference's part changed alone -/
def Kc (I I' : Mem) : Prop := ∀ c, c = 8 ∨ 50 ≤ c → I' c = I c
def Kr (I I' : Mem) : Prop := ∀ c, c ≠ 8 → c < 50 → I' c = I c
theorem Kc.rfl {I : Mem} : Kc I I := fun _ _ => _root_.rfl
theorem Kc.tr {I I' I'' : Mem} (h : Kc I I') (h2 : Kc I' I'') : Kc I I'' := fun c hc => (h2 c hc).trans (h c hc)
theorem Kr.rfl {I : Mem} : Kr I I := fun _ _ _ => _root_.rfl
theorem Kr.tr {I I' I'' : Mem} (h : Kr I I') (h2 : Kr I' I'') : Kr I I'' := fun c hc h' => (h2 c hc h').trans (h c hc h')
theorem Fr.kc {S : List (Nat × Nat)} {I I' : Mem} (F : Fr S I I') (h : ∀ x, x ∈ S → x.1 < 50 ∧ x.1 ≠ 8) : Kc I I' := fun c hc => F.gc (fun z q => by have := h _ q; simp at this; omega)
theorem Fr.kr {S : List (Nat × Nat)} {I I' : Mem} (F : Fr S I I') (h : ∀ x, x ∈ S → 50 ≤ x.1 ∨ x.1 = 8) : Kr I I' := fun c hc h' => F.gc (fun z q => by have := h _ q; simp at this; omega)
theorem GR_k {I I' : Mem} {a : Abs} (h : GR I a) (k : Kc I I') : GR I' a := by
  unfold GR LdR RX RV RB rR pkd rSn at *
  rw [k 8 (by omega), k 50 (by omega), k 51 (by omega), k 52 (by omega), k 53 (by omega), k 54 (by omega), k 55 (by omega), k 56 (by omega), k 57 (by omega), k 58 (by omega), k 59 (by omega), k 60 (by omega), k 61 (by omega), k 62 (by omega), k 63 (by omega), k 64 (by omega), k 65 (by omega), k 77 (by omega), k (77 + 1) (by omega), k (77 + 2) (by omega), k 80 (by omega), k 81 (by omega), k 82 (by omega), k (82 + 1) (by omega), k (82 + 2) (by omega), k 85 (by omega)]
  exact h
theorem GC_k {I I' : Mem} {P : PMem} {l : Nat} {a : Abs} (h : GC I P l a) (k : Kr I I') : GC I' P l a := by
  unfold GC CL BxC CB cRw lA stl cJ qvS vS at *
  rw [k 0 (by omega) (by omega), k 1 (by omega) (by omega), k 3 (by omega) (by omega), k 4 (by omega) (by omega), k 6 (by omega) (by omega), k 7 (by omega) (by omega), k 9 (by omega) (by omega), k 10 (by omega) (by omega), k 12 (by omega) (by omega), k 14 (by omega) (by omega), k 16 (by omega) (by omega), k 18 (by omega) (by omega), k 20 (by omega) (by omega), k 21 (by omega) (by omega), k 23 (by omega) (by omega), k 24 (by omega) (by omega), k 28 (by omega) (by omega), k 30 (by omega) (by omega), k 32 (by omega) (by omega), k 33 (by omega) (by omega), k 35 (by omega) (by omega), k 36 (by omega) (by omega), k 38 (by omega) (by omega), k 40 (by omega) (by omega), k 41 (by omega) (by omega), k 44 (by omega) (by omega), k 45 (by omega) (by omega), k 46 (by omega) (by omega), k 47 (by omega) (by omega)]
  exact h
