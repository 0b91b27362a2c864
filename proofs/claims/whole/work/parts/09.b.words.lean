/-! throws, what passes a caller by, the JDK's own -/
def exL : List String := ["java/lang/RuntimeException", "java/lang/Exception"]
/-- the words of 'throw new E(text)'; ix, rx: E's own constructor -/
def TWk (own : String) (ik ic ex ix : Nat) (rx : ByteArray) : Prop := Bundle.fit (exN ex) = true ∧ Cond.classLink own ik (exN ex) ∈ GW ∧ Cond.initialized (exN ex) ∈ GW ∧ (∀ w ∈ tx_atS own ic (exN ex) ix rx exL, w ∈ GW ∨ w = .castable (exN ex) (exN ex) ∨ ∃ Y ∈ exY, w = .declares (Bundle.initS Y)) ∧ (∀ w ∈ Cond.classLink own ik (exN ex) :: Cond.initialized (exN ex) :: tx_atS own ic (exN ex) ix rx exL, vx_ot w = true) ∧
  decode rx 0 = .ok (.aload_n 0, 1) ∧ decode rx 1 = .ok (.aload_n 1, 1) ∧ decode rx 2 = .ok (.invokespecial ix, 3) ∧ decode rx 5 = .ok (.return_, 1)
theorem tw_0 : TWk RX7 65 69 0 7 prog_15_method_2_code := ⟨by decide +kernel, by decide +kernel, by decide +kernel, by decide +kernel, by decide +kernel, by decide +kernel, by decide +kernel, by decide +kernel, by decide +kernel⟩
theorem tw_1 : TWk RX7 144 148 1 13 prog_27_method_4_code := ⟨by decide +kernel, by decide +kernel, by decide +kernel, by decide +kernel, by decide +kernel, by decide +kernel, by decide +kernel, by decide +kernel, by decide +kernel⟩
theorem exL_fit : ∀ n ∈ exL, Bundle.fit n = true := by decide +kernel
